/-! ===== the law's cases, from 26 ===== -/
theorem lw_c26 {κ : Kx} {E : En} {Q : State → Prop} {k n : Nat} {i : Int32} {M : Wd} (hi1 : vp_in (i + (1 : Int32)) E.2.2.2.2.1) (hi2 : vp_in (i + (2 : Int32)) E.2.2.2.2.1) (hi3 : vp_in (i + (3 : Int32)) E.2.2.2.2.1) (hM : Inv M) (hk : k + 2 ≤ 601024) (hn : n + 12 ≤ 7293034) (kk : ∀ M', Inv M' → J κ E mi_law Q (k + 2) (n + 12) [(0, .ref 63), (1, .ref 0), (2, .ref 53), (3, .ref 62), (4, .int i)] M' 1976 []) : J κ E mi_law Q k n [(0, .ref 63), (1, .ref 0), (2, .ref 53), (3, .ref 62), (4, .int i)] M 1244 [] := by
  by_cases hz : (E.2.2.2.2.2 (i + (2 : Int32)).toNatClampNeg) = 0
  · obtain ⟨r, M1, b, M2, e1, e2, e3, e4, e5⟩ := t_room (E.2.2.2.2.2 (i + (1 : Int32)).toNatClampNeg) (0 : Int32) M hM
    have hend : J κ E mi_law Q (k + 1) (n + 6) [(0, .ref 63), (1, .ref 0), (2, .ref 53), (3, .ref 62), (4, .int i), (5, .int r), (6, .int b)] M2 1325 [] := by
      refine J_goto (pc := 1325) (tgt := 1976) dL_law_1325 rfl ?_
      refine J_wide (k' := k + 2) (n' := n + 12) (by omega) (by omega) ?_
      refine J_sub (L' := [(0, .ref 63), (1, .ref 0), (2, .ref 53), (3, .ref 62), (4, .int i)]) [0, 1, 2, 3, 4] rfl ?_
      exact kk _ e5
    refine J_aload_n (pc := 1244) dL_law_1244 rfl 1 rfl ?_
    refine J_aload_n (pc := 1245) dL_law_1245 rfl 0 rfl ?_
    refine J_iload (pc := 1246) dL_law_1246 4 rfl ?_
    refine J_iconst (v := (1 : Int32)) (pc := 1248) dL_law_1248 (by decide) ?_
    refine J_iadd (pc := 1249) dL_law_1249 ?_
    refine J_sld (pc := 1250) hi1 dL_law_1250 ?_
    refine J_aload_n (pc := 1251) dL_law_1251 rfl 0 rfl ?_
    refine J_iload (pc := 1252) dL_law_1252 4 rfl ?_
    refine J_iconst (v := (2 : Int32)) (pc := 1254) dL_law_1254 (by decide) ?_
    refine J_iadd (pc := 1255) dL_law_1255 ?_
    refine J_sld (pc := 1256) hi2 dL_law_1256 ?_
    refine J_if_eq (pc := 1257) (tgt := 1264) dL_law_1257 rfl (fun _ => ?_) (fun h => absurd hz h)
    refine J_iconst (v := (0 : Int32)) (pc := 1264) dL_law_1264 (by decide) ?_
    refine J_aload_n (pc := 1265) dL_law_1265 rfl 3 rfl ?_
    refine J_callSX (g := mi_L_room) (pc := 1266) [.ref 0, .int (E.2.2.2.2.2 (i + (1 : Int32)).toNatClampNeg), .int (0 : Int32), .ref 62] [] ms_L_room w_945 (k_L_room_0_62 (E.2.2.2.2.2 (i + (1 : Int32)).toNatClampNeg) (0 : Int32) _ e1) rfl rfl (rm_law (Nat.le_of_ble_eq_true rfl) (Nat.le_of_ble_eq_true rfl) (show k + 1 ≤ 601024 by omega) (show n + 6 ≤ 7293034 by omega)) (Nat.le_of_ble_eq_true rfl) dL_law_1266 (Jk_vk (k + 1) (n + 6) rfl rfl fun _ => ?_)
    refine J_istore (pc := 1269) (L' := [(0, .ref 63), (1, .ref 0), (2, .ref 53), (3, .ref 62), (4, .int i), (5, .int r)]) dL_law_1269 (by decide) [1, 2, 3, 4, 5, 0] rfl ?_
    refine J_aload_n (pc := 1271) dL_law_1271 rfl 2 rfl ?_
    refine J_aload_n (pc := 1272) dL_law_1272 rfl 0 rfl ?_
    refine J_iload (pc := 1273) dL_law_1273 4 rfl ?_
    refine J_iconst (v := (1 : Int32)) (pc := 1275) dL_law_1275 (by decide) ?_
    refine J_iadd (pc := 1276) dL_law_1276 ?_
    refine J_sld (pc := 1277) hi1 dL_law_1277 ?_
    refine J_aload_n (pc := 1278) dL_law_1278 rfl 0 rfl ?_
    refine J_iload (pc := 1279) dL_law_1279 4 rfl ?_
    refine J_iconst (v := (2 : Int32)) (pc := 1281) dL_law_1281 (by decide) ?_
    refine J_iadd (pc := 1282) dL_law_1282 ?_
    refine J_sld (pc := 1283) hi2 dL_law_1283 ?_
    refine J_if_eq (pc := 1284) (tgt := 1291) dL_law_1284 rfl (fun _ => ?_) (fun h => absurd hz h)
    refine J_iconst (v := (0 : Int32)) (pc := 1291) dL_law_1291 (by decide) ?_
    refine J_callV (g := mi_X4_room) (ci := 4) (pc := 1292) [.int (E.2.2.2.2.2 (i + (1 : Int32)).toNatClampNeg), .int (0 : Int32)] [] mv_X4_room w_1397 (k_X4_room (E.2.2.2.2.2 (i + (1 : Int32)).toNatClampNeg) (0 : Int32) _ e2) rfl (by decide) rfl rfl rfl (rm_law (Nat.le_of_ble_eq_true rfl) (Nat.le_of_ble_eq_true rfl) (show (k + 1) + 0 ≤ 601024 by omega) (show (n + 6) + 0 ≤ 7293034 by omega)) (Nat.le_of_ble_eq_true rfl) dL_law_1292 (Jk_v rfl rfl fun _ => ?_)
    refine J_istore (pc := 1295) (L' := [(0, .ref 63), (1, .ref 0), (2, .ref 53), (3, .ref 62), (4, .int i), (5, .int r), (6, .int b)]) dL_law_1295 (by decide) [1, 2, 3, 4, 5, 6, 0] rfl ?_
    refine J_aload_n (pc := 1297) dL_law_1297 rfl 2 rfl ?_
    refine J_callV (g := mi_X4_thrown) (ci := 4) (pc := 1298) [] [] mv_X4_thrown w_1091 (k_X4_thrown _) rfl (by decide) rfl rfl rfl (rm_law (Nat.le_of_ble_eq_true rfl) (Nat.le_of_ble_eq_true rfl) (show (k + 1) + 0 ≤ 601024 by omega) (show (n + 6) + 0 ≤ 7293034 by omega)) (Nat.le_of_ble_eq_true rfl) dL_law_1298 (Jk_v rfl rfl fun _ => ?_)
    refine J_iload (pc := 1301) dL_law_1301 5 rfl ?_
    refine J_icmp_eq (pc := 1303) (tgt := 1308) dL_law_1303 rfl (fun _ => ?_) (fun h => absurd e3 h)
    refine J_iload (pc := 1308) dL_law_1308 5 rfl ?_
    refine J_if_ne (pc := 1310) (tgt := 1325) dL_law_1310 rfl (fun _ => hend) (fun hr => ?_)
    refine J_aload_n (pc := 1313) dL_law_1313 rfl 3 rfl ?_
    refine J_iconst (v := (0 : Int32)) (pc := 1314) dL_law_1314 (by decide) ?_
    refine J_lald (pc := 1315) (i := (0 : Int32)) vin0 dL_law_1315 ?_
    refine J_iload (pc := 1316) dL_law_1316 6 rfl ?_
    refine J_i2l (pc := 1318) dL_law_1318 ?_
    refine J_lcmp (pc := 1319) dL_law_1319 ?_
    exact J_if_eq (pc := 1320) (tgt := 1325) dL_law_1320 rfl (fun _ => hend) (fun h => absurd (lg_self (e4 hr)) h)
  · obtain ⟨r, M1, b, M2, e1, e2, e3, e4, e5⟩ := t_room (E.2.2.2.2.2 (i + (1 : Int32)).toNatClampNeg) (1 : Int32) M hM
    have hend : J κ E mi_law Q (k + 1) (n + 6) [(0, .ref 63), (1, .ref 0), (2, .ref 53), (3, .ref 62), (4, .int i), (5, .int r), (6, .int b)] M2 1325 [] := by
      refine J_goto (pc := 1325) (tgt := 1976) dL_law_1325 rfl ?_
      refine J_wide (k' := k + 2) (n' := n + 12) (by omega) (by omega) ?_
      refine J_sub (L' := [(0, .ref 63), (1, .ref 0), (2, .ref 53), (3, .ref 62), (4, .int i)]) [0, 1, 2, 3, 4] rfl ?_
      exact kk _ e5
    refine J_aload_n (pc := 1244) dL_law_1244 rfl 1 rfl ?_
    refine J_aload_n (pc := 1245) dL_law_1245 rfl 0 rfl ?_
    refine J_iload (pc := 1246) dL_law_1246 4 rfl ?_
    refine J_iconst (v := (1 : Int32)) (pc := 1248) dL_law_1248 (by decide) ?_
    refine J_iadd (pc := 1249) dL_law_1249 ?_
    refine J_sld (pc := 1250) hi1 dL_law_1250 ?_
    refine J_aload_n (pc := 1251) dL_law_1251 rfl 0 rfl ?_
    refine J_iload (pc := 1252) dL_law_1252 4 rfl ?_
    refine J_iconst (v := (2 : Int32)) (pc := 1254) dL_law_1254 (by decide) ?_
    refine J_iadd (pc := 1255) dL_law_1255 ?_
    refine J_sld (pc := 1256) hi2 dL_law_1256 ?_
    refine J_if_eq (pc := 1257) (tgt := 1264) dL_law_1257 rfl (fun h => absurd h hz) (fun _ => ?_)
    refine J_iconst (v := (1 : Int32)) (pc := 1260) dL_law_1260 (by decide) ?_
    refine J_goto (pc := 1261) (tgt := 1265) dL_law_1261 rfl ?_
    refine J_aload_n (pc := 1265) dL_law_1265 rfl 3 rfl ?_
    refine J_callSX (g := mi_L_room) (pc := 1266) [.ref 0, .int (E.2.2.2.2.2 (i + (1 : Int32)).toNatClampNeg), .int (1 : Int32), .ref 62] [] ms_L_room w_945 (k_L_room_0_62 (E.2.2.2.2.2 (i + (1 : Int32)).toNatClampNeg) (1 : Int32) _ e1) rfl rfl (rm_law (Nat.le_of_ble_eq_true rfl) (Nat.le_of_ble_eq_true rfl) (show k + 1 ≤ 601024 by omega) (show n + 6 ≤ 7293034 by omega)) (Nat.le_of_ble_eq_true rfl) dL_law_1266 (Jk_vk (k + 1) (n + 6) rfl rfl fun _ => ?_)
    refine J_istore (pc := 1269) (L' := [(0, .ref 63), (1, .ref 0), (2, .ref 53), (3, .ref 62), (4, .int i), (5, .int r)]) dL_law_1269 (by decide) [1, 2, 3, 4, 5, 0] rfl ?_
    refine J_aload_n (pc := 1271) dL_law_1271 rfl 2 rfl ?_
    refine J_aload_n (pc := 1272) dL_law_1272 rfl 0 rfl ?_
    refine J_iload (pc := 1273) dL_law_1273 4 rfl ?_
    refine J_iconst (v := (1 : Int32)) (pc := 1275) dL_law_1275 (by decide) ?_
    refine J_iadd (pc := 1276) dL_law_1276 ?_
    refine J_sld (pc := 1277) hi1 dL_law_1277 ?_
    refine J_aload_n (pc := 1278) dL_law_1278 rfl 0 rfl ?_
    refine J_iload (pc := 1279) dL_law_1279 4 rfl ?_
    refine J_iconst (v := (2 : Int32)) (pc := 1281) dL_law_1281 (by decide) ?_
    refine J_iadd (pc := 1282) dL_law_1282 ?_
    refine J_sld (pc := 1283) hi2 dL_law_1283 ?_
    refine J_if_eq (pc := 1284) (tgt := 1291) dL_law_1284 rfl (fun h => absurd h hz) (fun _ => ?_)
    refine J_iconst (v := (1 : Int32)) (pc := 1287) dL_law_1287 (by decide) ?_
    refine J_goto (pc := 1288) (tgt := 1292) dL_law_1288 rfl ?_
    refine J_callV (g := mi_X4_room) (ci := 4) (pc := 1292) [.int (E.2.2.2.2.2 (i + (1 : Int32)).toNatClampNeg), .int (1 : Int32)] [] mv_X4_room w_1397 (k_X4_room (E.2.2.2.2.2 (i + (1 : Int32)).toNatClampNeg) (1 : Int32) _ e2) rfl (by decide) rfl rfl rfl (rm_law (Nat.le_of_ble_eq_true rfl) (Nat.le_of_ble_eq_true rfl) (show (k + 1) + 0 ≤ 601024 by omega) (show (n + 6) + 0 ≤ 7293034 by omega)) (Nat.le_of_ble_eq_true rfl) dL_law_1292 (Jk_v rfl rfl fun _ => ?_)
    refine J_istore (pc := 1295) (L' := [(0, .ref 63), (1, .ref 0), (2, .ref 53), (3, .ref 62), (4, .int i), (5, .int r), (6, .int b)]) dL_law_1295 (by decide) [1, 2, 3, 4, 5, 6, 0] rfl ?_
    refine J_aload_n (pc := 1297) dL_law_1297 rfl 2 rfl ?_
    refine J_callV (g := mi_X4_thrown) (ci := 4) (pc := 1298) [] [] mv_X4_thrown w_1091 (k_X4_thrown _) rfl (by decide) rfl rfl rfl (rm_law (Nat.le_of_ble_eq_true rfl) (Nat.le_of_ble_eq_true rfl) (show (k + 1) + 0 ≤ 601024 by omega) (show (n + 6) + 0 ≤ 7293034 by omega)) (Nat.le_of_ble_eq_true rfl) dL_law_1298 (Jk_v rfl rfl fun _ => ?_)
    refine J_iload (pc := 1301) dL_law_1301 5 rfl ?_
    refine J_icmp_eq (pc := 1303) (tgt := 1308) dL_law_1303 rfl (fun _ => ?_) (fun h => absurd e3 h)
    refine J_iload (pc := 1308) dL_law_1308 5 rfl ?_
    refine J_if_ne (pc := 1310) (tgt := 1325) dL_law_1310 rfl (fun _ => hend) (fun hr => ?_)
    refine J_aload_n (pc := 1313) dL_law_1313 rfl 3 rfl ?_
    refine J_iconst (v := (0 : Int32)) (pc := 1314) dL_law_1314 (by decide) ?_
    refine J_lald (pc := 1315) (i := (0 : Int32)) vin0 dL_law_1315 ?_
    refine J_iload (pc := 1316) dL_law_1316 6 rfl ?_
    refine J_i2l (pc := 1318) dL_law_1318 ?_
    refine J_lcmp (pc := 1319) dL_law_1319 ?_
    exact J_if_eq (pc := 1320) (tgt := 1325) dL_law_1320 rfl (fun _ => hend) (fun h => absurd (lg_self (e4 hr)) h)
theorem lw_c27 {κ : Kx} {E : En} {Q : State → Prop} {k n : Nat} {i : Int32} {M : Wd} (hi1 : vp_in (i + (1 : Int32)) E.2.2.2.2.1) (hi2 : vp_in (i + (2 : Int32)) E.2.2.2.2.1) (hi3 : vp_in (i + (3 : Int32)) E.2.2.2.2.1) (hM : Inv M) (hk : k + 2 ≤ 601024) (hn : n + 12 ≤ 7293034) (kk : ∀ M', Inv M' → J κ E mi_law Q (k + 2) (n + 12) [(0, .ref 63), (1, .ref 0), (2, .ref 53), (3, .ref 62), (4, .int i)] M' 1976 []) : J κ E mi_law Q k n [(0, .ref 63), (1, .ref 0), (2, .ref 53), (3, .ref 62), (4, .int i)] M 1328 [] := by
  obtain ⟨v, M1, M2, e1, e2, e3⟩ := t_possibleSlides M hM
  have e1' : (obind (F_X3_possibleSlides M) fun v => some (v, M)) = some (v, M1) := e1
  obtain ⟨u, e4, e5⟩ := obind_e e1'
  obtain ⟨rfl, rfl⟩ := Prod.mk.inj (Option.some.inj e5)
  refine J_aload_n (pc := 1328) dL_law_1328 rfl 1 rfl ?_
  refine J_callV (g := mi_X3_possibleSlides) (ci := 3) (pc := 1329) [] [] mv_X3_possibleSlides w_353 (k_X3_possibleSlides _ e4) rfl (by decide) rfl rfl rfl (rm_law (Nat.le_of_ble_eq_true rfl) (Nat.le_of_ble_eq_true rfl) (show k + 0 ≤ 601024 by omega) (show n + 0 ≤ 7293034 by omega)) (Nat.le_of_ble_eq_true rfl) dL_law_1329 (Jk_v rfl rfl fun _ => ?_)
  refine J_aload_n (pc := 1332) dL_law_1332 rfl 2 rfl ?_
  refine J_callV (g := mi_X4_possibleSlides) (ci := 4) (pc := 1333) [] [.int u] mv_X4_possibleSlides w_1401 (k_X4_possibleSlides _ e2) rfl (by decide) rfl rfl rfl (rm_law (Nat.le_of_ble_eq_true rfl) (Nat.le_of_ble_eq_true rfl) (show k + 0 ≤ 601024 by omega) (show n + 0 ≤ 7293034 by omega)) (Nat.le_of_ble_eq_true rfl) dL_law_1333 (Jk_v rfl rfl fun _ => ?_)
  refine J_icmp_eq (pc := 1336) (tgt := 1976) dL_law_1336 rfl (fun _ => ?_) (fun h => absurd rfl h)
  refine J_wide (k' := k + 2) (n' := n + 12) (by omega) (by omega) ?_
  exact kk _ e3
theorem lw_c28 {κ : Kx} {E : En} {Q : State → Prop} {k n : Nat} {i : Int32} {M : Wd} (hi1 : vp_in (i + (1 : Int32)) E.2.2.2.2.1) (hi2 : vp_in (i + (2 : Int32)) E.2.2.2.2.1) (hi3 : vp_in (i + (3 : Int32)) E.2.2.2.2.1) (hM : Inv M) (hk : k + 2 ≤ 601024) (hn : n + 12 ≤ 7293034) (kk : ∀ M', Inv M' → J κ E mi_law Q (k + 2) (n + 12) [(0, .ref 63), (1, .ref 0), (2, .ref 53), (3, .ref 62), (4, .int i)] M' 1976 []) : J κ E mi_law Q k n [(0, .ref 63), (1, .ref 0), (2, .ref 53), (3, .ref 62), (4, .int i)] M 1341 [] := by
  obtain ⟨v, M1, M2, e1, e2, e3⟩ := t_logged M hM
  have e1' : some (F_X3_logged M, M) = some (v, M1) := e1
  obtain ⟨rfl, rfl⟩ := Prod.mk.inj (Option.some.inj e1')
  refine J_aload_n (pc := 1341) dL_law_1341 rfl 1 rfl ?_
  refine J_callV (g := mi_X3_logged) (ci := 3) (pc := 1342) [] [] mv_X3_logged w_365 (k_X3_logged _) rfl (by decide) rfl rfl rfl (rm_law (Nat.le_of_ble_eq_true rfl) (Nat.le_of_ble_eq_true rfl) (show k + 0 ≤ 601024 by omega) (show n + 0 ≤ 7293034 by omega)) (Nat.le_of_ble_eq_true rfl) dL_law_1342 (Jk_v rfl rfl fun _ => ?_)
  refine J_aload_n (pc := 1345) dL_law_1345 rfl 2 rfl ?_
  refine J_callV (g := mi_X4_logged) (ci := 4) (pc := 1346) [] [.int (F_X3_logged M)] mv_X4_logged w_1409 (k_X4_logged _ e2) rfl (by decide) rfl rfl rfl (rm_law (Nat.le_of_ble_eq_true rfl) (Nat.le_of_ble_eq_true rfl) (show k + 0 ≤ 601024 by omega) (show n + 0 ≤ 7293034 by omega)) (Nat.le_of_ble_eq_true rfl) dL_law_1346 (Jk_v rfl rfl fun _ => ?_)
  refine J_icmp_eq (pc := 1349) (tgt := 1976) dL_law_1349 rfl (fun _ => ?_) (fun h => absurd rfl h)
  refine J_wide (k' := k + 2) (n' := n + 12) (by omega) (by omega) ?_
  exact kk _ e3
theorem lw_c29 {κ : Kx} {E : En} {Q : State → Prop} {k n : Nat} {i : Int32} {M : Wd} (hi1 : vp_in (i + (1 : Int32)) E.2.2.2.2.1) (hi2 : vp_in (i + (2 : Int32)) E.2.2.2.2.1) (hi3 : vp_in (i + (3 : Int32)) E.2.2.2.2.1) (hM : Inv M) (hk : k + 2 ≤ 601024) (hn : n + 12 ≤ 7293034) (kk : ∀ M', Inv M' → J κ E mi_law Q (k + 2) (n + 12) [(0, .ref 63), (1, .ref 0), (2, .ref 53), (3, .ref 62), (4, .int i)] M' 1976 []) : J κ E mi_law Q k n [(0, .ref 63), (1, .ref 0), (2, .ref 53), (3, .ref 62), (4, .int i)] M 1354 [] := by
  obtain ⟨r, M1, b, M2, e1, e2, e3, e4, e5⟩ := t_carOfSlide (E.2.2.2.2.2 (i + (1 : Int32)).toNatClampNeg) M hM
  have hend : J κ E mi_law Q (k + 1) (n + 6) [(0, .ref 63), (1, .ref 0), (2, .ref 53), (3, .ref 62), (4, .int i), (5, .int r), (6, .int b)] M2 1407 [] := by
    refine J_goto (pc := 1407) (tgt := 1976) dL_law_1407 rfl ?_
    refine J_wide (k' := k + 2) (n' := n + 12) (by omega) (by omega) ?_
    refine J_sub (L' := [(0, .ref 63), (1, .ref 0), (2, .ref 53), (3, .ref 62), (4, .int i)]) [0, 1, 2, 3, 4] rfl ?_
    exact kk _ e5
  refine J_aload_n (pc := 1354) dL_law_1354 rfl 1 rfl ?_
  refine J_aload_n (pc := 1355) dL_law_1355 rfl 0 rfl ?_
  refine J_iload (pc := 1356) dL_law_1356 4 rfl ?_
  refine J_iconst (v := (1 : Int32)) (pc := 1358) dL_law_1358 (by decide) ?_
  refine J_iadd (pc := 1359) dL_law_1359 ?_
  refine J_sld (pc := 1360) hi1 dL_law_1360 ?_
  refine J_aload_n (pc := 1361) dL_law_1361 rfl 3 rfl ?_
  refine J_callSX (g := mi_L_carOfSlide) (pc := 1362) [.ref 0, .int (E.2.2.2.2.2 (i + (1 : Int32)).toNatClampNeg), .ref 62] [] ms_L_carOfSlide w_952 (k_L_carOfSlide_0_62 (E.2.2.2.2.2 (i + (1 : Int32)).toNatClampNeg) _ e1) rfl rfl (rm_law (Nat.le_of_ble_eq_true rfl) (Nat.le_of_ble_eq_true rfl) (show k + 1 ≤ 601024 by omega) (show n + 6 ≤ 7293034 by omega)) (Nat.le_of_ble_eq_true rfl) dL_law_1362 (Jk_vk (k + 1) (n + 6) rfl rfl fun _ => ?_)
  refine J_istore (pc := 1365) (L' := [(0, .ref 63), (1, .ref 0), (2, .ref 53), (3, .ref 62), (4, .int i), (5, .int r)]) dL_law_1365 (by decide) [1, 2, 3, 4, 5, 0] rfl ?_
  refine J_aload_n (pc := 1367) dL_law_1367 rfl 2 rfl ?_
  refine J_aload_n (pc := 1368) dL_law_1368 rfl 0 rfl ?_
  refine J_iload (pc := 1369) dL_law_1369 4 rfl ?_
  refine J_iconst (v := (1 : Int32)) (pc := 1371) dL_law_1371 (by decide) ?_
  refine J_iadd (pc := 1372) dL_law_1372 ?_
  refine J_sld (pc := 1373) hi1 dL_law_1373 ?_
  refine J_callV (g := mi_X4_carOfSlide) (ci := 4) (pc := 1374) [.int (E.2.2.2.2.2 (i + (1 : Int32)).toNatClampNeg)] [] mv_X4_carOfSlide w_1413 (k_X4_carOfSlide (E.2.2.2.2.2 (i + (1 : Int32)).toNatClampNeg) _ e2) rfl (by decide) rfl rfl rfl (rm_law (Nat.le_of_ble_eq_true rfl) (Nat.le_of_ble_eq_true rfl) (show (k + 1) + 0 ≤ 601024 by omega) (show (n + 6) + 0 ≤ 7293034 by omega)) (Nat.le_of_ble_eq_true rfl) dL_law_1374 (Jk_v rfl rfl fun _ => ?_)
  refine J_istore (pc := 1377) (L' := [(0, .ref 63), (1, .ref 0), (2, .ref 53), (3, .ref 62), (4, .int i), (5, .int r), (6, .int b)]) dL_law_1377 (by decide) [1, 2, 3, 4, 5, 6, 0] rfl ?_
  refine J_aload_n (pc := 1379) dL_law_1379 rfl 2 rfl ?_
  refine J_callV (g := mi_X4_thrown) (ci := 4) (pc := 1380) [] [] mv_X4_thrown w_1091 (k_X4_thrown _) rfl (by decide) rfl rfl rfl (rm_law (Nat.le_of_ble_eq_true rfl) (Nat.le_of_ble_eq_true rfl) (show (k + 1) + 0 ≤ 601024 by omega) (show (n + 6) + 0 ≤ 7293034 by omega)) (Nat.le_of_ble_eq_true rfl) dL_law_1380 (Jk_v rfl rfl fun _ => ?_)
  refine J_iload (pc := 1383) dL_law_1383 5 rfl ?_
  refine J_icmp_eq (pc := 1385) (tgt := 1390) dL_law_1385 rfl (fun _ => ?_) (fun h => absurd e3 h)
  refine J_iload (pc := 1390) dL_law_1390 5 rfl ?_
  refine J_if_ne (pc := 1392) (tgt := 1407) dL_law_1392 rfl (fun _ => hend) (fun hr => ?_)
  refine J_aload_n (pc := 1395) dL_law_1395 rfl 3 rfl ?_
  refine J_iconst (v := (0 : Int32)) (pc := 1396) dL_law_1396 (by decide) ?_
  refine J_lald (pc := 1397) (i := (0 : Int32)) vin0 dL_law_1397 ?_
  refine J_iload (pc := 1398) dL_law_1398 6 rfl ?_
  refine J_i2l (pc := 1400) dL_law_1400 ?_
  refine J_lcmp (pc := 1401) dL_law_1401 ?_
  exact J_if_eq (pc := 1402) (tgt := 1407) dL_law_1402 rfl (fun _ => hend) (fun h => absurd (lg_self (e4 hr)) h)
theorem lw_c30 {κ : Kx} {E : En} {Q : State → Prop} {k n : Nat} {i : Int32} {M : Wd} (hi1 : vp_in (i + (1 : Int32)) E.2.2.2.2.1) (hi2 : vp_in (i + (2 : Int32)) E.2.2.2.2.1) (hi3 : vp_in (i + (3 : Int32)) E.2.2.2.2.1) (hM : Inv M) (hk : k + 2 ≤ 601024) (hn : n + 12 ≤ 7293034) (kk : ∀ M', Inv M' → J κ E mi_law Q (k + 2) (n + 12) [(0, .ref 63), (1, .ref 0), (2, .ref 53), (3, .ref 62), (4, .int i)] M' 1976 []) : J κ E mi_law Q k n [(0, .ref 63), (1, .ref 0), (2, .ref 53), (3, .ref 62), (4, .int i)] M 1410 [] := by
  obtain ⟨r, M1, b, M2, e1, e2, e3, e4, e5⟩ := t_changeBySlide (E.2.2.2.2.2 (i + (1 : Int32)).toNatClampNeg) M hM
  have hend : J κ E mi_law Q (k + 1) (n + 6) [(0, .ref 63), (1, .ref 0), (2, .ref 53), (3, .ref 62), (4, .int i), (5, .int r), (6, .int b)] M2 1463 [] := by
    refine J_goto (pc := 1463) (tgt := 1976) dL_law_1463 rfl ?_
    refine J_wide (k' := k + 2) (n' := n + 12) (by omega) (by omega) ?_
    refine J_sub (L' := [(0, .ref 63), (1, .ref 0), (2, .ref 53), (3, .ref 62), (4, .int i)]) [0, 1, 2, 3, 4] rfl ?_
    exact kk _ e5
  refine J_aload_n (pc := 1410) dL_law_1410 rfl 1 rfl ?_
  refine J_aload_n (pc := 1411) dL_law_1411 rfl 0 rfl ?_
  refine J_iload (pc := 1412) dL_law_1412 4 rfl ?_
  refine J_iconst (v := (1 : Int32)) (pc := 1414) dL_law_1414 (by decide) ?_
  refine J_iadd (pc := 1415) dL_law_1415 ?_
  refine J_sld (pc := 1416) hi1 dL_law_1416 ?_
  refine J_aload_n (pc := 1417) dL_law_1417 rfl 3 rfl ?_
  refine J_callSX (g := mi_L_changeBySlide) (pc := 1418) [.ref 0, .int (E.2.2.2.2.2 (i + (1 : Int32)).toNatClampNeg), .ref 62] [] ms_L_changeBySlide w_961 (k_L_changeBySlide_0_62 (E.2.2.2.2.2 (i + (1 : Int32)).toNatClampNeg) _ e1) rfl rfl (rm_law (Nat.le_of_ble_eq_true rfl) (Nat.le_of_ble_eq_true rfl) (show k + 1 ≤ 601024 by omega) (show n + 6 ≤ 7293034 by omega)) (Nat.le_of_ble_eq_true rfl) dL_law_1418 (Jk_vk (k + 1) (n + 6) rfl rfl fun _ => ?_)
  refine J_istore (pc := 1421) (L' := [(0, .ref 63), (1, .ref 0), (2, .ref 53), (3, .ref 62), (4, .int i), (5, .int r)]) dL_law_1421 (by decide) [1, 2, 3, 4, 5, 0] rfl ?_
  refine J_aload_n (pc := 1423) dL_law_1423 rfl 2 rfl ?_
  refine J_aload_n (pc := 1424) dL_law_1424 rfl 0 rfl ?_
  refine J_iload (pc := 1425) dL_law_1425 4 rfl ?_
  refine J_iconst (v := (1 : Int32)) (pc := 1427) dL_law_1427 (by decide) ?_
  refine J_iadd (pc := 1428) dL_law_1428 ?_
  refine J_sld (pc := 1429) hi1 dL_law_1429 ?_
  refine J_callV (g := mi_X4_changeBySlide) (ci := 4) (pc := 1430) [.int (E.2.2.2.2.2 (i + (1 : Int32)).toNatClampNeg)] [] mv_X4_changeBySlide w_1421 (k_X4_changeBySlide (E.2.2.2.2.2 (i + (1 : Int32)).toNatClampNeg) _ e2) rfl (by decide) rfl rfl rfl (rm_law (Nat.le_of_ble_eq_true rfl) (Nat.le_of_ble_eq_true rfl) (show (k + 1) + 0 ≤ 601024 by omega) (show (n + 6) + 0 ≤ 7293034 by omega)) (Nat.le_of_ble_eq_true rfl) dL_law_1430 (Jk_v rfl rfl fun _ => ?_)
  refine J_istore (pc := 1433) (L' := [(0, .ref 63), (1, .ref 0), (2, .ref 53), (3, .ref 62), (4, .int i), (5, .int r), (6, .int b)]) dL_law_1433 (by decide) [1, 2, 3, 4, 5, 6, 0] rfl ?_
  refine J_aload_n (pc := 1435) dL_law_1435 rfl 2 rfl ?_
  refine J_callV (g := mi_X4_thrown) (ci := 4) (pc := 1436) [] [] mv_X4_thrown w_1091 (k_X4_thrown _) rfl (by decide) rfl rfl rfl (rm_law (Nat.le_of_ble_eq_true rfl) (Nat.le_of_ble_eq_true rfl) (show (k + 1) + 0 ≤ 601024 by omega) (show (n + 6) + 0 ≤ 7293034 by omega)) (Nat.le_of_ble_eq_true rfl) dL_law_1436 (Jk_v rfl rfl fun _ => ?_)
  refine J_iload (pc := 1439) dL_law_1439 5 rfl ?_
  refine J_icmp_eq (pc := 1441) (tgt := 1446) dL_law_1441 rfl (fun _ => ?_) (fun h => absurd e3 h)
  refine J_iload (pc := 1446) dL_law_1446 5 rfl ?_
  refine J_if_ne (pc := 1448) (tgt := 1463) dL_law_1448 rfl (fun _ => hend) (fun hr => ?_)
  refine J_aload_n (pc := 1451) dL_law_1451 rfl 3 rfl ?_
  refine J_iconst (v := (0 : Int32)) (pc := 1452) dL_law_1452 (by decide) ?_
  refine J_lald (pc := 1453) (i := (0 : Int32)) vin0 dL_law_1453 ?_
  refine J_iload (pc := 1454) dL_law_1454 6 rfl ?_
  refine J_i2l (pc := 1456) dL_law_1456 ?_
  refine J_lcmp (pc := 1457) dL_law_1457 ?_
  exact J_if_eq (pc := 1458) (tgt := 1463) dL_law_1458 rfl (fun _ => hend) (fun h => absurd (lg_self (e4 hr)) h)
theorem lw_c31 {κ : Kx} {E : En} {Q : State → Prop} {k n : Nat} {i : Int32} {M : Wd} (hi1 : vp_in (i + (1 : Int32)) E.2.2.2.2.1) (hi2 : vp_in (i + (2 : Int32)) E.2.2.2.2.1) (hi3 : vp_in (i + (3 : Int32)) E.2.2.2.2.1) (hM : Inv M) (hk : k + 2 ≤ 601024) (hn : n + 12 ≤ 7293034) (kk : ∀ M', Inv M' → J κ E mi_law Q (k + 2) (n + 12) [(0, .ref 63), (1, .ref 0), (2, .ref 53), (3, .ref 62), (4, .int i)] M' 1976 []) : J κ E mi_law Q k n [(0, .ref 63), (1, .ref 0), (2, .ref 53), (3, .ref 62), (4, .int i)] M 1466 [] := by
  obtain ⟨r, M1, b, M2, e1, e2, e3, e4, e5⟩ := t_stepsOf (E.2.2.2.2.2 (i + (1 : Int32)).toNatClampNeg) M hM
  have hend : J κ E mi_law Q (k + 1) (n + 6) [(0, .ref 63), (1, .ref 0), (2, .ref 53), (3, .ref 62), (4, .int i), (5, .int r), (6, .int b)] M2 1519 [] := by
    refine J_goto (pc := 1519) (tgt := 1976) dL_law_1519 rfl ?_
    refine J_wide (k' := k + 2) (n' := n + 12) (by omega) (by omega) ?_
    refine J_sub (L' := [(0, .ref 63), (1, .ref 0), (2, .ref 53), (3, .ref 62), (4, .int i)]) [0, 1, 2, 3, 4] rfl ?_
    exact kk _ e5
  refine J_aload_n (pc := 1466) dL_law_1466 rfl 1 rfl ?_
  refine J_aload_n (pc := 1467) dL_law_1467 rfl 0 rfl ?_
  refine J_iload (pc := 1468) dL_law_1468 4 rfl ?_
  refine J_iconst (v := (1 : Int32)) (pc := 1470) dL_law_1470 (by decide) ?_
  refine J_iadd (pc := 1471) dL_law_1471 ?_
  refine J_sld (pc := 1472) hi1 dL_law_1472 ?_
  refine J_aload_n (pc := 1473) dL_law_1473 rfl 3 rfl ?_
  refine J_callSX (g := mi_L_stepsOf) (pc := 1474) [.ref 0, .int (E.2.2.2.2.2 (i + (1 : Int32)).toNatClampNeg), .ref 62] [] ms_L_stepsOf w_968 (k_L_stepsOf_0_62 (E.2.2.2.2.2 (i + (1 : Int32)).toNatClampNeg) _ e1) rfl rfl (rm_law (Nat.le_of_ble_eq_true rfl) (Nat.le_of_ble_eq_true rfl) (show k + 1 ≤ 601024 by omega) (show n + 6 ≤ 7293034 by omega)) (Nat.le_of_ble_eq_true rfl) dL_law_1474 (Jk_vk (k + 1) (n + 6) rfl rfl fun _ => ?_)
  refine J_istore (pc := 1477) (L' := [(0, .ref 63), (1, .ref 0), (2, .ref 53), (3, .ref 62), (4, .int i), (5, .int r)]) dL_law_1477 (by decide) [1, 2, 3, 4, 5, 0] rfl ?_
  refine J_aload_n (pc := 1479) dL_law_1479 rfl 2 rfl ?_
  refine J_aload_n (pc := 1480) dL_law_1480 rfl 0 rfl ?_
  refine J_iload (pc := 1481) dL_law_1481 4 rfl ?_
  refine J_iconst (v := (1 : Int32)) (pc := 1483) dL_law_1483 (by decide) ?_
  refine J_iadd (pc := 1484) dL_law_1484 ?_
  refine J_sld (pc := 1485) hi1 dL_law_1485 ?_
  refine J_callV (g := mi_X4_stepsOf) (ci := 4) (pc := 1486) [.int (E.2.2.2.2.2 (i + (1 : Int32)).toNatClampNeg)] [] mv_X4_stepsOf w_1425 (k_X4_stepsOf (E.2.2.2.2.2 (i + (1 : Int32)).toNatClampNeg) _ e2) rfl (by decide) rfl rfl rfl (rm_law (Nat.le_of_ble_eq_true rfl) (Nat.le_of_ble_eq_true rfl) (show (k + 1) + 0 ≤ 601024 by omega) (show (n + 6) + 0 ≤ 7293034 by omega)) (Nat.le_of_ble_eq_true rfl) dL_law_1486 (Jk_v rfl rfl fun _ => ?_)
  refine J_istore (pc := 1489) (L' := [(0, .ref 63), (1, .ref 0), (2, .ref 53), (3, .ref 62), (4, .int i), (5, .int r), (6, .int b)]) dL_law_1489 (by decide) [1, 2, 3, 4, 5, 6, 0] rfl ?_
  refine J_aload_n (pc := 1491) dL_law_1491 rfl 2 rfl ?_
  refine J_callV (g := mi_X4_thrown) (ci := 4) (pc := 1492) [] [] mv_X4_thrown w_1091 (k_X4_thrown _) rfl (by decide) rfl rfl rfl (rm_law (Nat.le_of_ble_eq_true rfl) (Nat.le_of_ble_eq_true rfl) (show (k + 1) + 0 ≤ 601024 by omega) (show (n + 6) + 0 ≤ 7293034 by omega)) (Nat.le_of_ble_eq_true rfl) dL_law_1492 (Jk_v rfl rfl fun _ => ?_)
  refine J_iload (pc := 1495) dL_law_1495 5 rfl ?_
  refine J_icmp_eq (pc := 1497) (tgt := 1502) dL_law_1497 rfl (fun _ => ?_) (fun h => absurd e3 h)
  refine J_iload (pc := 1502) dL_law_1502 5 rfl ?_
  refine J_if_ne (pc := 1504) (tgt := 1519) dL_law_1504 rfl (fun _ => hend) (fun hr => ?_)
  refine J_aload_n (pc := 1507) dL_law_1507 rfl 3 rfl ?_
  refine J_iconst (v := (0 : Int32)) (pc := 1508) dL_law_1508 (by decide) ?_
  refine J_lald (pc := 1509) (i := (0 : Int32)) vin0 dL_law_1509 ?_
  refine J_iload (pc := 1510) dL_law_1510 6 rfl ?_
  refine J_i2l (pc := 1512) dL_law_1512 ?_
  refine J_lcmp (pc := 1513) dL_law_1513 ?_
  exact J_if_eq (pc := 1514) (tgt := 1519) dL_law_1514 rfl (fun _ => hend) (fun h => absurd (lg_self (e4 hr)) h)
theorem lw_c32 {κ : Kx} {E : En} {Q : State → Prop} {k n : Nat} {i : Int32} {M : Wd} (hi1 : vp_in (i + (1 : Int32)) E.2.2.2.2.1) (hi2 : vp_in (i + (2 : Int32)) E.2.2.2.2.1) (hi3 : vp_in (i + (3 : Int32)) E.2.2.2.2.1) (hM : Inv M) (hk : k + 2 ≤ 601024) (hn : n + 12 ≤ 7293034) (kk : ∀ M', Inv M' → J κ E mi_law Q (k + 2) (n + 12) [(0, .ref 63), (1, .ref 0), (2, .ref 53), (3, .ref 62), (4, .int i)] M' 1976 []) : J κ E mi_law Q k n [(0, .ref 63), (1, .ref 0), (2, .ref 53), (3, .ref 62), (4, .int i)] M 1522 [] := by
  obtain ⟨v, M1, M2, e1, e2, e3⟩ := t_fuel M hM
  have e1' : (obind (F_X3_fuel M) fun v => some (v, M)) = some (v, M1) := e1
  obtain ⟨u, e4, e5⟩ := obind_e e1'
  obtain ⟨rfl, rfl⟩ := Prod.mk.inj (Option.some.inj e5)
  refine J_aload_n (pc := 1522) dL_law_1522 rfl 1 rfl ?_
  refine J_callV (g := mi_X3_fuel) (ci := 3) (pc := 1523) [] [] mv_X3_fuel w_369 (k_X3_fuel _ e4) rfl (by decide) rfl rfl rfl (rm_law (Nat.le_of_ble_eq_true rfl) (Nat.le_of_ble_eq_true rfl) (show k + 0 ≤ 601024 by omega) (show n + 0 ≤ 7293034 by omega)) (Nat.le_of_ble_eq_true rfl) dL_law_1523 (Jk_v rfl rfl fun _ => ?_)
  refine J_aload_n (pc := 1526) dL_law_1526 rfl 2 rfl ?_
  refine J_callV (g := mi_X4_fuel) (ci := 4) (pc := 1527) [] [.int u] mv_X4_fuel w_1433 (k_X4_fuel _ e2) rfl (by decide) rfl rfl rfl (rm_law (Nat.le_of_ble_eq_true rfl) (Nat.le_of_ble_eq_true rfl) (show k + 0 ≤ 601024 by omega) (show n + 0 ≤ 7293034 by omega)) (Nat.le_of_ble_eq_true rfl) dL_law_1527 (Jk_v rfl rfl fun _ => ?_)
  refine J_icmp_eq (pc := 1530) (tgt := 1976) dL_law_1530 rfl (fun _ => ?_) (fun h => absurd rfl h)
  refine J_wide (k' := k + 2) (n' := n + 12) (by omega) (by omega) ?_
  exact kk _ e3
theorem lw_c33 {κ : Kx} {E : En} {Q : State → Prop} {k n : Nat} {i : Int32} {M : Wd} (hi1 : vp_in (i + (1 : Int32)) E.2.2.2.2.1) (hi2 : vp_in (i + (2 : Int32)) E.2.2.2.2.1) (hi3 : vp_in (i + (3 : Int32)) E.2.2.2.2.1) (hM : Inv M) (hk : k + 2 ≤ 601024) (hn : n + 12 ≤ 7293034) (kk : ∀ M', Inv M' → J κ E mi_law Q (k + 2) (n + 12) [(0, .ref 63), (1, .ref 0), (2, .ref 53), (3, .ref 62), (4, .int i)] M' 1976 []) : J κ E mi_law Q k n [(0, .ref 63), (1, .ref 0), (2, .ref 53), (3, .ref 62), (4, .int i)] M 1535 [] := by
  obtain ⟨v, M1, M2, e1, e2, e3⟩ := t_fuelByCars M hM
  have e1' : (obind (F_X3_fuelByCars M) fun v => some (v, M)) = some (v, M1) := e1
  obtain ⟨u, e4, e5⟩ := obind_e e1'
  obtain ⟨rfl, rfl⟩ := Prod.mk.inj (Option.some.inj e5)
  refine J_aload_n (pc := 1535) dL_law_1535 rfl 1 rfl ?_
  refine J_callV (g := mi_X3_fuelByCars) (ci := 3) (pc := 1536) [] [] mv_X3_fuelByCars w_380 (k_X3_fuelByCars _ e4) rfl (by decide) rfl rfl rfl (rm_law (Nat.le_of_ble_eq_true rfl) (Nat.le_of_ble_eq_true rfl) (show k + 0 ≤ 601024 by omega) (show n + 0 ≤ 7293034 by omega)) (Nat.le_of_ble_eq_true rfl) dL_law_1536 (Jk_v rfl rfl fun _ => ?_)
  refine J_aload_n (pc := 1539) dL_law_1539 rfl 2 rfl ?_
  refine J_callV (g := mi_X4_fuelByCars) (ci := 4) (pc := 1540) [] [.int u] mv_X4_fuelByCars w_1441 (k_X4_fuelByCars _ e2) rfl (by decide) rfl rfl rfl (rm_law (Nat.le_of_ble_eq_true rfl) (Nat.le_of_ble_eq_true rfl) (show k + 0 ≤ 601024 by omega) (show n + 0 ≤ 7293034 by omega)) (Nat.le_of_ble_eq_true rfl) dL_law_1540 (Jk_v rfl rfl fun _ => ?_)
  refine J_icmp_eq (pc := 1543) (tgt := 1976) dL_law_1543 rfl (fun _ => ?_) (fun h => absurd rfl h)
  refine J_wide (k' := k + 2) (n' := n + 12) (by omega) (by omega) ?_
  exact kk _ e3
theorem lw_c34 {κ : Kx} {E : En} {Q : State → Prop} {k n : Nat} {i : Int32} {M : Wd} (hi1 : vp_in (i + (1 : Int32)) E.2.2.2.2.1) (hi2 : vp_in (i + (2 : Int32)) E.2.2.2.2.1) (hi3 : vp_in (i + (3 : Int32)) E.2.2.2.2.1) (hM : Inv M) (hk : k + 2 ≤ 601024) (hn : n + 12 ≤ 7293034) (kk : ∀ M', Inv M' → J κ E mi_law Q (k + 2) (n + 12) [(0, .ref 63), (1, .ref 0), (2, .ref 53), (3, .ref 62), (4, .int i)] M' 1976 []) : J κ E mi_law Q k n [(0, .ref 63), (1, .ref 0), (2, .ref 53), (3, .ref 62), (4, .int i)] M 1548 [] := by
  obtain ⟨v, M1, M2, e1, e2, e3⟩ := t_fewestSlides M hM
  refine J_aload_n (pc := 1548) dL_law_1548 rfl 1 rfl ?_
  refine J_callV (g := mi_X3_fewestSlides) (ci := 3) (pc := 1549) [] [] mv_X3_fewestSlides w_392 (k_X3_fewestSlides _ e1) rfl (by decide) rfl rfl rfl (rm_law (Nat.le_of_ble_eq_true rfl) (Nat.le_of_ble_eq_true rfl) (show k + 0 ≤ 601024 by omega) (show n + 0 ≤ 7293034 by omega)) (Nat.le_of_ble_eq_true rfl) dL_law_1549 (Jk_v rfl rfl fun _ => ?_)
  refine J_aload_n (pc := 1552) dL_law_1552 rfl 2 rfl ?_
  refine J_callV (g := mi_X4_fewestSlides) (ci := 4) (pc := 1553) [] [.int v] mv_X4_fewestSlides w_1445 (k_X4_fewestSlides _ e2) rfl (by decide) rfl rfl rfl (rm_law (Nat.le_of_ble_eq_true rfl) (Nat.le_of_ble_eq_true rfl) (show k + 0 ≤ 601024 by omega) (show n + 0 ≤ 7293034 by omega)) (Nat.le_of_ble_eq_true rfl) dL_law_1553 (Jk_v rfl rfl fun _ => ?_)
  refine J_icmp_eq (pc := 1556) (tgt := 1976) dL_law_1556 rfl (fun _ => ?_) (fun h => absurd rfl h)
  refine J_wide (k' := k + 2) (n' := n + 12) (by omega) (by omega) ?_
  exact kk _ e3
theorem lw_c35 {κ : Kx} {E : En} {Q : State → Prop} {k n : Nat} {i : Int32} {M : Wd} (hi1 : vp_in (i + (1 : Int32)) E.2.2.2.2.1) (hi2 : vp_in (i + (2 : Int32)) E.2.2.2.2.1) (hi3 : vp_in (i + (3 : Int32)) E.2.2.2.2.1) (hM : Inv M) (hk : k + 2 ≤ 601024) (hn : n + 12 ≤ 7293034) (kk : ∀ M', Inv M' → J κ E mi_law Q (k + 2) (n + 12) [(0, .ref 63), (1, .ref 0), (2, .ref 53), (3, .ref 62), (4, .int i)] M' 1976 []) : J κ E mi_law Q k n [(0, .ref 63), (1, .ref 0), (2, .ref 53), (3, .ref 62), (4, .int i)] M 1561 [] := by
  obtain ⟨v, M1, M2, e1, e2, e3⟩ := t_fewestSlidesFromEnds M hM
  refine J_aload_n (pc := 1561) dL_law_1561 rfl 1 rfl ?_
  refine J_callV (g := mi_X3_fewestSlidesFromEnds) (ci := 3) (pc := 1562) [] [] mv_X3_fewestSlidesFromEnds w_462 (k_X3_fewestSlidesFromEnds _ e1) rfl (by decide) rfl rfl rfl (rm_law (Nat.le_of_ble_eq_true rfl) (Nat.le_of_ble_eq_true rfl) (show k + 0 ≤ 601024 by omega) (show n + 0 ≤ 7293034 by omega)) (Nat.le_of_ble_eq_true rfl) dL_law_1562 (Jk_v rfl rfl fun _ => ?_)
  refine J_aload_n (pc := 1565) dL_law_1565 rfl 2 rfl ?_
  refine J_callV (g := mi_X4_fewestSlidesFromEnds) (ci := 4) (pc := 1566) [] [.int v] mv_X4_fewestSlidesFromEnds w_1461 (k_X4_fewestSlidesFromEnds _ e2) rfl (by decide) rfl rfl rfl (rm_law (Nat.le_of_ble_eq_true rfl) (Nat.le_of_ble_eq_true rfl) (show k + 0 ≤ 601024 by omega) (show n + 0 ≤ 7293034 by omega)) (Nat.le_of_ble_eq_true rfl) dL_law_1566 (Jk_v rfl rfl fun _ => ?_)
  refine J_icmp_eq (pc := 1569) (tgt := 1976) dL_law_1569 rfl (fun _ => ?_) (fun h => absurd rfl h)
  refine J_wide (k' := k + 2) (n' := n + 12) (by omega) (by omega) ?_
  exact kk _ e3
theorem lw_c36 {κ : Kx} {E : En} {Q : State → Prop} {k n : Nat} {i : Int32} {M : Wd} (hi1 : vp_in (i + (1 : Int32)) E.2.2.2.2.1) (hi2 : vp_in (i + (2 : Int32)) E.2.2.2.2.1) (hi3 : vp_in (i + (3 : Int32)) E.2.2.2.2.1) (hM : Inv M) (hk : k + 2 ≤ 601024) (hn : n + 12 ≤ 7293034) (kk : ∀ M', Inv M' → J κ E mi_law Q (k + 2) (n + 12) [(0, .ref 63), (1, .ref 0), (2, .ref 53), (3, .ref 62), (4, .int i)] M' 1976 []) : J κ E mi_law Q k n [(0, .ref 63), (1, .ref 0), (2, .ref 53), (3, .ref 62), (4, .int i)] M 1574 [] := by
  obtain ⟨v, M1, M2, e1, e2, e3⟩ := t_fewestSteps M hM
  refine J_aload_n (pc := 1574) dL_law_1574 rfl 1 rfl ?_
  refine J_callV (g := mi_X3_fewestSteps) (ci := 3) (pc := 1575) [] [] mv_X3_fewestSteps w_470 (k_X3_fewestSteps _ e1) rfl (by decide) rfl rfl rfl (rm_law (Nat.le_of_ble_eq_true rfl) (Nat.le_of_ble_eq_true rfl) (show k + 0 ≤ 601024 by omega) (show n + 0 ≤ 7293034 by omega)) (Nat.le_of_ble_eq_true rfl) dL_law_1575 (Jk_v rfl rfl fun _ => ?_)
  refine J_aload_n (pc := 1578) dL_law_1578 rfl 2 rfl ?_
  refine J_callV (g := mi_X4_fewestSteps) (ci := 4) (pc := 1579) [] [.int v] mv_X4_fewestSteps w_1469 (k_X4_fewestSteps _ e2) rfl (by decide) rfl rfl rfl (rm_law (Nat.le_of_ble_eq_true rfl) (Nat.le_of_ble_eq_true rfl) (show k + 0 ≤ 601024 by omega) (show n + 0 ≤ 7293034 by omega)) (Nat.le_of_ble_eq_true rfl) dL_law_1579 (Jk_v rfl rfl fun _ => ?_)
  refine J_icmp_eq (pc := 1582) (tgt := 1976) dL_law_1582 rfl (fun _ => ?_) (fun h => absurd rfl h)
  refine J_wide (k' := k + 2) (n' := n + 12) (by omega) (by omega) ?_
  exact kk _ e3
theorem lw_c37 {κ : Kx} {E : En} {Q : State → Prop} {k n : Nat} {i : Int32} {M : Wd} (hi1 : vp_in (i + (1 : Int32)) E.2.2.2.2.1) (hi2 : vp_in (i + (2 : Int32)) E.2.2.2.2.1) (hi3 : vp_in (i + (3 : Int32)) E.2.2.2.2.1) (hM : Inv M) (hk : k + 2 ≤ 601024) (hn : n + 12 ≤ 7293034) (kk : ∀ M', Inv M' → J κ E mi_law Q (k + 2) (n + 12) [(0, .ref 63), (1, .ref 0), (2, .ref 53), (3, .ref 62), (4, .int i)] M' 1976 []) : J κ E mi_law Q k n [(0, .ref 63), (1, .ref 0), (2, .ref 53), (3, .ref 62), (4, .int i)] M 1587 [] := by
  obtain ⟨v, M1, M2, e1, e2, e3⟩ := t_leastFuel M hM
  refine J_aload_n (pc := 1587) dL_law_1587 rfl 1 rfl ?_
  refine J_callV (g := mi_X3_leastFuel) (ci := 3) (pc := 1588) [] [] mv_X3_leastFuel w_478 (k_X3_leastFuel _ e1) rfl (by decide) rfl rfl rfl (rm_law (Nat.le_of_ble_eq_true rfl) (Nat.le_of_ble_eq_true rfl) (show k + 0 ≤ 601024 by omega) (show n + 0 ≤ 7293034 by omega)) (Nat.le_of_ble_eq_true rfl) dL_law_1588 (Jk_v rfl rfl fun _ => ?_)
  refine J_aload_n (pc := 1591) dL_law_1591 rfl 2 rfl ?_
  refine J_callV (g := mi_X4_leastFuel) (ci := 4) (pc := 1592) [] [.int v] mv_X4_leastFuel w_1473 (k_X4_leastFuel _ e2) rfl (by decide) rfl rfl rfl (rm_law (Nat.le_of_ble_eq_true rfl) (Nat.le_of_ble_eq_true rfl) (show k + 0 ≤ 601024 by omega) (show n + 0 ≤ 7293034 by omega)) (Nat.le_of_ble_eq_true rfl) dL_law_1592 (Jk_v rfl rfl fun _ => ?_)
  refine J_icmp_eq (pc := 1595) (tgt := 1976) dL_law_1595 rfl (fun _ => ?_) (fun h => absurd rfl h)
  refine J_wide (k' := k + 2) (n' := n + 12) (by omega) (by omega) ?_
  exact kk _ e3
theorem lw_c38 {κ : Kx} {E : En} {Q : State → Prop} {k n : Nat} {i : Int32} {M : Wd} (hi1 : vp_in (i + (1 : Int32)) E.2.2.2.2.1) (hi2 : vp_in (i + (2 : Int32)) E.2.2.2.2.1) (hi3 : vp_in (i + (3 : Int32)) E.2.2.2.2.1) (hM : Inv M) (hk : k + 2 ≤ 601024) (hn : n + 12 ≤ 7293034) (kk : ∀ M', Inv M' → J κ E mi_law Q (k + 2) (n + 12) [(0, .ref 63), (1, .ref 0), (2, .ref 53), (3, .ref 62), (4, .int i)] M' 1976 []) : J κ E mi_law Q k n [(0, .ref 63), (1, .ref 0), (2, .ref 53), (3, .ref 62), (4, .int i)] M 1600 [] := by
  obtain ⟨v, M1, M2, e1, e2, e3⟩ := t_leastFuelByRounds M hM
  refine J_aload_n (pc := 1600) dL_law_1600 rfl 1 rfl ?_
  refine J_callV (g := mi_X3_leastFuelByRounds) (ci := 3) (pc := 1601) [] [] mv_X3_leastFuelByRounds w_510 (k_X3_leastFuelByRounds _ e1) rfl (by decide) rfl rfl rfl (rm_law (Nat.le_of_ble_eq_true rfl) (Nat.le_of_ble_eq_true rfl) (show k + 0 ≤ 601024 by omega) (show n + 0 ≤ 7293034 by omega)) (Nat.le_of_ble_eq_true rfl) dL_law_1601 (Jk_v rfl rfl fun _ => ?_)
  refine J_aload_n (pc := 1604) dL_law_1604 rfl 2 rfl ?_
  refine J_callV (g := mi_X4_leastFuelByRounds) (ci := 4) (pc := 1605) [] [.int v] mv_X4_leastFuelByRounds w_1489 (k_X4_leastFuelByRounds _ e2) rfl (by decide) rfl rfl rfl (rm_law (Nat.le_of_ble_eq_true rfl) (Nat.le_of_ble_eq_true rfl) (show k + 0 ≤ 601024 by omega) (show n + 0 ≤ 7293034 by omega)) (Nat.le_of_ble_eq_true rfl) dL_law_1605 (Jk_v rfl rfl fun _ => ?_)
  refine J_icmp_eq (pc := 1608) (tgt := 1976) dL_law_1608 rfl (fun _ => ?_) (fun h => absurd rfl h)
  refine J_wide (k' := k + 2) (n' := n + 12) (by omega) (by omega) ?_
  exact kk _ e3

/-! ===== walks of the methods, 14 ===== -/
set_option maxHeartbeats 4000000 in
set_option maxRecDepth 100000 in
theorem k_X4_keep {E : En} (M : Wd) {r : Int32} {M' : Wd} (h : F_X4_keep M = some (r, M')) : Con E mi_X4_keep [.ref 53] M (.inl (some (.int r))) M' := by
  unfold F_X4_keep at h
  refine Con.of (by decide) rfl (Nat.le_of_ble_eq_true rfl) (fun κ => ?_)
  show J κ E mi_X4_keep _ 0 0 [(0, .ref 53)] M 0 []
  refine J_aload_n (pc := 0) dX4_keep_0 rfl 0 rfl ?_
  refine J_iconst (v := (0 : Int32)) (pc := 1) dX4_keep_1 (by decide) ?_
  refine put_53_0 (pc := 2) w_1023 dX4_keep_2 ?_
  refine J_aload_n (pc := 5) dX4_keep_5 rfl 0 rfl ?_
  refine get_53_3 (pc := 6) w_1026 dX4_keep_6 ?_
  refine J_iconst (v := (0 : Int32)) (pc := 9) dX4_keep_9 (by decide) ?_
  refine J_aload_n (pc := 10) dX4_keep_10 rfl 0 rfl ?_
  refine get_53_6 (pc := 11) w_1029 dX4_keep_11 ?_
  refine J_iconst (v := (0 : Int32)) (pc := 14) dX4_keep_14 (by decide) ?_
  obtain ⟨M1, hc2, h⟩ := obind_e h
  refine J_callS (g := mi_X4_copyState) (pc := 15) [.ref 55, .int (0 : Int32), .ref 57, .int (0 : Int32)] [] ms_X4_copyState w_1128 (k_X4_copyState_55_57 (0 : Int32) (0 : Int32) _ hc2) rfl rfl ⟨⟨Nat.le_of_ble_eq_true rfl, Nat.le_of_ble_eq_true rfl⟩, Nat.le_of_ble_eq_true rfl, Nat.le_of_ble_eq_true rfl⟩ (Nat.le_of_ble_eq_true rfl) dX4_keep_15 (Jk_0 rfl rfl ?_)
  refine J_aload_n (pc := 18) dX4_keep_18 rfl 0 rfl ?_
  refine J_iconst (v := (1 : Int32)) (pc := 19) dX4_keep_19 (by decide) ?_
  refine put_53_7 (pc := 20) w_1030 (Or.inr rfl) dX4_keep_20 ?_
  refine J_aload_n (pc := 23) dX4_keep_23 rfl 0 rfl ?_
  refine get_53_3 (pc := 24) w_1026 dX4_keep_24 ?_
  refine J_iconst (v := (0 : Int32)) (pc := 27) dX4_keep_27 (by decide) ?_
  refine J_iald (c := 55) (N := 82) (pc := 28) ja_55 (Nat.le_of_ble_eq_true rfl) (vpc rfl) dX4_keep_28 ?_
  refine J_topi (x := (upI M1 53 7 (1 : Int32)).1 55 (Int32.toNatClampNeg 0)) (y := (M1.1 55 0)) (Eq.symm (a := (upI M1 53 7 (1 : Int32)).1 55 (Int32.toNatClampNeg 0)) (show (upI M1 53 7 (1 : Int32)).1 55 0 = (M1.1 55 0) from (eI_ne (Nat.ne_of_beq_eq_false rfl) rfl))) ?_
  cases h
  exact J_ireturn dX4_keep_29 rfl rfl rfl rfl rfl
set_option maxHeartbeats 4000000 in
set_option maxRecDepth 100000 in
theorem k_X4_restore {E : En} (M : Wd) {r : Int32} {M' : Wd} (h : F_X4_restore M = some (r, M')) : Con E mi_X4_restore [.ref 53] M (.inl (some (.int r))) M' := by
  unfold F_X4_restore at h
  refine Con.of (by decide) rfl (Nat.le_of_ble_eq_true rfl) (fun κ => ?_)
  show J κ E mi_X4_restore _ 0 0 [(0, .ref 53)] M 0 []
  refine J_aload_n (pc := 0) dX4_restore_0 rfl 0 rfl ?_
  refine J_aload_n (pc := 1) dX4_restore_1 rfl 0 rfl ?_
  refine get_53_7 (pc := 2) w_1030 dX4_restore_2 ?_
  obtain ⟨v1, e2, h⟩ := bnd_e h
  have hb4 : isB v1 := by rw [e2]; repeat (first | exact Or.inl rfl | exact Or.inr rfl | assumption | exact okB_b (by assumption) | apply isB_ite)
  refine J_join [(0, .ref 53)] M 13 [.int v1, .ref 53] ?_ (fun hJ => ?_)
  · obtain ⟨v5, M6, hc7, h⟩ := obind2_e h
    refine J_callV (g := mi_X4_refused) (ci := 4) (pc := 13) [.int v1] [] mv_X4_refused w_1120 (k_X4_refused v1 _ hc7) rfl (by decide) rfl rfl rfl ⟨⟨Nat.le_of_ble_eq_true rfl, Nat.le_of_ble_eq_true rfl⟩, Nat.le_of_ble_eq_true rfl, Nat.le_of_ble_eq_true rfl⟩ (Nat.le_of_ble_eq_true rfl) dX4_restore_13 (Jk_v rfl rfl fun hok8 => ?_)
    refine J_if_eq (pc := 16) (tgt := 21) dX4_restore_16 (by decide) (fun c9 => ?_) (fun c9 => ?_)
    · replace h := ifp c9 h
      refine J_aload_n (pc := 21) dX4_restore_21 rfl 0 rfl ?_
      obtain ⟨M10, hc11, h⟩ := obind_e h
      refine J_callV (g := mi_X4_saves) (ci := 4) (pc := 22) [] [] mv_X4_saves w_1124 (k_X4_saves _ hc11) rfl (by decide) rfl rfl rfl ⟨⟨Nat.le_of_ble_eq_true rfl, Nat.le_of_ble_eq_true rfl⟩, Nat.le_of_ble_eq_true rfl, Nat.le_of_ble_eq_true rfl⟩ (Nat.le_of_ble_eq_true rfl) dX4_restore_22 (Jk_0 rfl rfl ?_)
      refine J_aload_n (pc := 25) dX4_restore_25 rfl 0 rfl ?_
      refine get_53_6 (pc := 26) w_1029 dX4_restore_26 ?_
      refine J_iconst (v := (0 : Int32)) (pc := 29) dX4_restore_29 (by decide) ?_
      refine J_aload_n (pc := 30) dX4_restore_30 rfl 0 rfl ?_
      refine get_53_3 (pc := 31) w_1026 dX4_restore_31 ?_
      refine J_iconst (v := (0 : Int32)) (pc := 34) dX4_restore_34 (by decide) ?_
      obtain ⟨M12, hc13, h⟩ := obind_e h
      refine J_callS (g := mi_X4_copyState) (pc := 35) [.ref 57, .int (0 : Int32), .ref 55, .int (0 : Int32)] [] ms_X4_copyState w_1128 (k_X4_copyState_57_55 (0 : Int32) (0 : Int32) _ hc13) rfl rfl ⟨⟨Nat.le_of_ble_eq_true rfl, Nat.le_of_ble_eq_true rfl⟩, Nat.le_of_ble_eq_true rfl, Nat.le_of_ble_eq_true rfl⟩ (Nat.le_of_ble_eq_true rfl) dX4_restore_35 (Jk_0 rfl rfl ?_)
      refine J_aload_n (pc := 38) dX4_restore_38 rfl 0 rfl ?_
      refine get_53_3 (pc := 39) w_1026 dX4_restore_39 ?_
      refine J_iconst (v := (0 : Int32)) (pc := 42) dX4_restore_42 (by decide) ?_
      refine J_iald (c := 55) (N := 82) (pc := 43) ja_55 (Nat.le_of_ble_eq_true rfl) (vpc rfl) dX4_restore_43 ?_
      refine J_topi (x := M12.1 55 (Int32.toNatClampNeg 0)) (y := (M12.1 55 0)) (Eq.symm (a := M12.1 55 (Int32.toNatClampNeg 0)) (show M12.1 55 0 = (M12.1 55 0) from rfl)) ?_
      cases h
      exact J_ireturn dX4_restore_44 rfl rfl rfl rfl rfl
    · replace h := ifn c9 h
      refine J_iconst (v := (0 : Int32)) (pc := 19) dX4_restore_19 (by decide) ?_
      cases h
      exact J_ireturn dX4_restore_20 rfl rfl rfl rfl rfl
  · refine J_if_eq (pc := 5) (tgt := 12) dX4_restore_5 (by decide) (fun c3 => ?_) (fun c3 => ?_)
    · refine J_iconst (v := (1 : Int32)) (pc := 12) dX4_restore_12 (by decide) ?_
      refine J_topi (y := v1) (by rw [e2, if_pos c3]) ?_
      exact hJ
    · refine J_iconst (v := (0 : Int32)) (pc := 8) dX4_restore_8 (by decide) ?_
      refine J_goto (pc := 9) (tgt := 13) dX4_restore_9 (by decide) ?_
      refine J_topi (y := v1) (by rw [e2, if_neg c3]) ?_
      exact hJ
set_option maxHeartbeats 4000000 in
set_option maxRecDepth 100000 in
theorem k_X4_savedStates {E : En} (M : Wd) {r : Int32} {M' : Wd} (h : F_X4_savedStates M = some (r, M')) : Con E mi_X4_savedStates [.ref 53] M (.inl (some (.int r))) M' := by
  unfold F_X4_savedStates at h
  refine Con.of (by decide) rfl (Nat.le_of_ble_eq_true rfl) (fun κ => ?_)
  show J κ E mi_X4_savedStates _ 0 0 [(0, .ref 53)] M 0 []
  refine J_aload_n (pc := 0) dX4_savedStates_0 rfl 0 rfl ?_
  refine J_iconst (v := (0 : Int32)) (pc := 1) dX4_savedStates_1 (by decide) ?_
  refine put_53_0 (pc := 2) w_1023 dX4_savedStates_2 ?_
  refine J_aload_n (pc := 5) dX4_savedStates_5 rfl 0 rfl ?_
  refine get_53_5 (pc := 6) w_1028 dX4_savedStates_6 ?_
  refine J_topi (y := (M.1 53 5)) (Eq.symm (show (upI M 53 0 (0 : Int32)).1 53 5 = (M.1 53 5) from (eI_kn (Nat.ne_of_beq_eq_false rfl) rfl))) ?_
  cases h
  exact J_ireturn dX4_savedStates_9 rfl rfl rfl rfl rfl
set_option maxHeartbeats 4000000 in
set_option maxRecDepth 100000 in
theorem k_X4_told {E : En} (a1 : Int32) (M : Wd) {r : Int32} {M' : Wd} (h : F_X4_told a1 M = some (r, M')) : Con E mi_X4_told [.ref 53, .int a1] M (.inl (some (.int r))) M' := by
  unfold F_X4_told at h
  refine Con.of (by decide) rfl (Nat.le_of_ble_eq_true rfl) (fun κ => ?_)
  show J κ E mi_X4_told _ 0 0 [(0, .ref 53), (1, .int a1)] M 0 []
  refine J_aload_n (pc := 0) dX4_told_0 rfl 0 rfl ?_
  refine J_iconst (v := (0 : Int32)) (pc := 1) dX4_told_1 (by decide) ?_
  refine put_53_0 (pc := 2) w_1023 dX4_told_2 ?_
  refine J_iload_n (pc := 5) dX4_told_5 rfl 1 rfl ?_
  cases h
  exact J_ireturn dX4_told_6 rfl rfl rfl rfl rfl
set_option maxHeartbeats 4000000 in
set_option maxRecDepth 100000 in
theorem k_X4_cars {E : En} (M : Wd) {r : Int32} {M' : Wd} (h : F_X4_cars M = some (r, M')) : Con E mi_X4_cars [.ref 53] M (.inl (some (.int r))) M' := by
  unfold F_X4_cars at h
  refine Con.of (by decide) rfl (Nat.le_of_ble_eq_true rfl) (fun κ => ?_)
  show J κ E mi_X4_cars _ 0 0 [(0, .ref 53)] M 0 []
  refine J_aload_n (pc := 0) dX4_cars_0 rfl 0 rfl ?_
  refine J_aload_n (pc := 1) dX4_cars_1 rfl 0 rfl ?_
  refine get_53_3 (pc := 2) w_1026 dX4_cars_2 ?_
  refine J_iconst (v := (0 : Int32)) (pc := 5) dX4_cars_5 (by decide) ?_
  refine J_iald (c := 55) (N := 82) (pc := 6) ja_55 (Nat.le_of_ble_eq_true rfl) (vpc rfl) dX4_cars_6 ?_
  refine J_topi (x := M.1 55 (Int32.toNatClampNeg 0)) (y := (M.1 55 0)) (Eq.symm (a := M.1 55 (Int32.toNatClampNeg 0)) (show M.1 55 0 = (M.1 55 0) from rfl)) ?_
  obtain ⟨v1, M2, hc3, h⟩ := obind2_e h
  refine J_callV (g := mi_X4_told) (ci := 4) (pc := 7) [.int (M.1 55 0)] [] mv_X4_told w_1349 (k_X4_told (M.1 55 0) _ hc3) rfl (by decide) rfl rfl rfl ⟨⟨Nat.le_of_ble_eq_true rfl, Nat.le_of_ble_eq_true rfl⟩, Nat.le_of_ble_eq_true rfl, Nat.le_of_ble_eq_true rfl⟩ (Nat.le_of_ble_eq_true rfl) dX4_cars_7 (Jk_v rfl rfl fun hok4 => ?_)
  cases h
  exact J_ireturn dX4_cars_10 rfl rfl rfl rfl rfl
set_option maxHeartbeats 4000000 in
set_option maxRecDepth 100000 in
theorem k_X4_walls {E : En} (M : Wd) {r : Int32} {M' : Wd} (h : F_X4_walls M = some (r, M')) : Con E mi_X4_walls [.ref 53] M (.inl (some (.int r))) M' := by
  unfold F_X4_walls at h
  refine Con.of (by decide) rfl (Nat.le_of_ble_eq_true rfl) (fun κ => ?_)
  show J κ E mi_X4_walls _ 0 0 [(0, .ref 53)] M 0 []
  refine J_aload_n (pc := 0) dX4_walls_0 rfl 0 rfl ?_
  refine J_aload_n (pc := 1) dX4_walls_1 rfl 0 rfl ?_
  refine get_53_3 (pc := 2) w_1026 dX4_walls_2 ?_
  refine J_bipush (v := (19 : Int32)) (pc := 5) dX4_walls_5 (by decide) ?_
  refine J_iald (c := 55) (N := 82) (pc := 7) ja_55 (Nat.le_of_ble_eq_true rfl) (vpc rfl) dX4_walls_7 ?_
  refine J_topi (x := M.1 55 (Int32.toNatClampNeg 19)) (y := (M.1 55 19)) (Eq.symm (a := M.1 55 (Int32.toNatClampNeg 19)) (show M.1 55 19 = (M.1 55 19) from rfl)) ?_
  obtain ⟨v1, hc2, h⟩ := obind_e h
  refine J_callS (g := mi_X4_bits) (pc := 8) [.int (M.1 55 19)] [.ref 53] ms_X4_bits w_1155 (k_X4_bits (M.1 55 19) _ hc2) rfl rfl ⟨⟨Nat.le_of_ble_eq_true rfl, Nat.le_of_ble_eq_true rfl⟩, Nat.le_of_ble_eq_true rfl, Nat.le_of_ble_eq_true rfl⟩ (Nat.le_of_ble_eq_true rfl) dX4_walls_8 (Jk_v rfl rfl fun hok3 => ?_)
  obtain ⟨v4, M5, hc6, h⟩ := obind2_e h
  refine J_callV (g := mi_X4_told) (ci := 4) (pc := 11) [.int v1] [] mv_X4_told w_1349 (k_X4_told v1 _ hc6) rfl (by decide) rfl rfl rfl ⟨⟨Nat.le_of_ble_eq_true rfl, Nat.le_of_ble_eq_true rfl⟩, Nat.le_of_ble_eq_true rfl, Nat.le_of_ble_eq_true rfl⟩ (Nat.le_of_ble_eq_true rfl) dX4_walls_11 (Jk_v rfl rfl fun hok7 => ?_)
  cases h
  exact J_ireturn dX4_walls_14 rfl rfl rfl rfl rfl
set_option maxHeartbeats 4000000 in
set_option maxRecDepth 100000 in
theorem k_X4_noCar {E : En} (a1 : Int32) (M : Wd) {r : Int32} {M' : Wd} (h : F_X4_noCar a1 M = some (r, M')) : Con E mi_X4_noCar [.ref 53, .int a1] M (.inl (some (.int r))) M' := by
  unfold F_X4_noCar at h
  refine Con.of (by decide) rfl (Nat.le_of_ble_eq_true rfl) (fun κ => ?_)
  show J κ E mi_X4_noCar _ 0 0 [(0, .ref 53), (1, .int a1)] M 0 []
  refine J_aload_n (pc := 0) dX4_noCar_0 rfl 0 rfl ?_
  refine J_aload_n (pc := 1) dX4_noCar_1 rfl 0 rfl ?_
  refine J_iload_n (pc := 2) dX4_noCar_2 rfl 1 rfl ?_
  refine J_callV (g := mi_X4_isCar) (ci := 4) (pc := 3) [.int a1] [.ref 53] mv_X4_isCar w_1166 (k_X4_isCar a1 _) rfl (by decide) rfl rfl rfl ⟨⟨Nat.le_of_ble_eq_true rfl, Nat.le_of_ble_eq_true rfl⟩, Nat.le_of_ble_eq_true rfl, Nat.le_of_ble_eq_true rfl⟩ (Nat.le_of_ble_eq_true rfl) dX4_noCar_3 (Jk_v rfl rfl fun hok1 => ?_)
  obtain ⟨v2, e3, h⟩ := bnd_e h
  have hb5 : isB v2 := by rw [e3]; repeat (first | exact Or.inl rfl | exact Or.inr rfl | assumption | exact okB_b (by assumption) | apply isB_ite)
  refine J_join [] M 14 [.int v2, .ref 53] ?_ (fun hJ => ?_)
  · obtain ⟨v6, M7, hc8, h⟩ := obind2_e h
    refine J_callV (g := mi_X4_refused) (ci := 4) (pc := 14) [.int v2] [] mv_X4_refused w_1120 (k_X4_refused v2 _ hc8) rfl (by decide) rfl rfl rfl ⟨⟨Nat.le_of_ble_eq_true rfl, Nat.le_of_ble_eq_true rfl⟩, Nat.le_of_ble_eq_true rfl, Nat.le_of_ble_eq_true rfl⟩ (Nat.le_of_ble_eq_true rfl) dX4_noCar_14 (Jk_v rfl rfl fun hok9 => ?_)
    cases h
    exact J_zreturn dX4_noCar_17 rfl (okB_b hok9) rfl rfl rfl rfl
  · refine J_if_eq (pc := 6) (tgt := 13) dX4_noCar_6 (by decide) (fun c4 => ?_) (fun c4 => ?_)
    · refine J_iconst (v := (1 : Int32)) (pc := 13) dX4_noCar_13 (by decide) ?_
      refine J_sub [] rfl ?_
      refine J_topi (y := v2) (by rw [e3, if_pos c4]) ?_
      exact hJ
    · refine J_iconst (v := (0 : Int32)) (pc := 9) dX4_noCar_9 (by decide) ?_
      refine J_goto (pc := 10) (tgt := 14) dX4_noCar_10 (by decide) ?_
      refine J_sub [] rfl ?_
      refine J_topi (y := v2) (by rw [e3, if_neg c4]) ?_
      exact hJ
set_option maxHeartbeats 4000000 in
set_option maxRecDepth 100000 in
theorem k_X4_laneOf {E : En} (a1 : Int32) (M : Wd) {r : Int32} {M' : Wd} (h : F_X4_laneOf a1 M = some (r, M')) : Con E mi_X4_laneOf [.ref 53, .int a1] M (.inl (some (.int r))) M' := by
  unfold F_X4_laneOf at h
  refine Con.of (by decide) rfl (Nat.le_of_ble_eq_true rfl) (fun κ => ?_)
  show J κ E mi_X4_laneOf _ 0 0 [(0, .ref 53), (1, .int a1)] M 0 []
  refine J_aload_n (pc := 0) dX4_laneOf_0 rfl 0 rfl ?_
  refine J_iload_n (pc := 1) dX4_laneOf_1 rfl 1 rfl ?_
  obtain ⟨v1, M2, hc3, h⟩ := obind2_e h
  refine J_callV (g := mi_X4_noCar) (ci := 4) (pc := 2) [.int a1] [] mv_X4_noCar w_1361 (k_X4_noCar a1 _ hc3) rfl (by decide) rfl rfl rfl ⟨⟨Nat.le_of_ble_eq_true rfl, Nat.le_of_ble_eq_true rfl⟩, Nat.le_of_ble_eq_true rfl, Nat.le_of_ble_eq_true rfl⟩ (Nat.le_of_ble_eq_true rfl) dX4_laneOf_2 (Jk_v rfl rfl fun hok4 => ?_)
  refine J_if_eq (pc := 5) (tgt := 12) dX4_laneOf_5 (by decide) (fun c5 => ?_) (fun c5 => ?_)
  · replace h := ifp c5 h
    refine J_aload_n (pc := 12) dX4_laneOf_12 rfl 0 rfl ?_
    refine get_53_3 (pc := 13) w_1026 dX4_laneOf_13 ?_
    refine J_iconst (v := (1 : Int32)) (pc := 16) dX4_laneOf_16 (by decide) ?_
    refine J_iload_n (pc := 17) dX4_laneOf_17 rfl 1 rfl ?_
    refine J_iadd (pc := 18) dX4_laneOf_18 ?_
    obtain ⟨v6, e7, hk8, h⟩ := ldi_e h
    refine J_iald (c := 55) (N := 82) (pc := 19) ja_55 (Nat.le_of_ble_eq_true rfl) hk8 dX4_laneOf_19 ?_
    refine J_topi e7 ?_
    cases h
    exact J_ireturn dX4_laneOf_20 rfl rfl rfl rfl rfl
  · replace h := ifn c5 h
    refine J_iconst (v := (0 : Int32)) (pc := 8) dX4_laneOf_8 (by decide) ?_
    refine J_goto (pc := 9) (tgt := 20) dX4_laneOf_9 (by decide) ?_
    cases h
    exact J_ireturn dX4_laneOf_20 rfl rfl rfl rfl rfl
set_option maxHeartbeats 4000000 in
set_option maxRecDepth 100000 in
theorem k_X4_placeOf {E : En} (a1 : Int32) (M : Wd) {r : Int32} {M' : Wd} (h : F_X4_placeOf a1 M = some (r, M')) : Con E mi_X4_placeOf [.ref 53, .int a1] M (.inl (some (.int r))) M' := by
  unfold F_X4_placeOf at h
  refine Con.of (by decide) rfl (Nat.le_of_ble_eq_true rfl) (fun κ => ?_)
  show J κ E mi_X4_placeOf _ 0 0 [(0, .ref 53), (1, .int a1)] M 0 []
  refine J_aload_n (pc := 0) dX4_placeOf_0 rfl 0 rfl ?_
  refine J_iload_n (pc := 1) dX4_placeOf_1 rfl 1 rfl ?_
  obtain ⟨v1, M2, hc3, h⟩ := obind2_e h
  refine J_callV (g := mi_X4_noCar) (ci := 4) (pc := 2) [.int a1] [] mv_X4_noCar w_1361 (k_X4_noCar a1 _ hc3) rfl (by decide) rfl rfl rfl ⟨⟨Nat.le_of_ble_eq_true rfl, Nat.le_of_ble_eq_true rfl⟩, Nat.le_of_ble_eq_true rfl, Nat.le_of_ble_eq_true rfl⟩ (Nat.le_of_ble_eq_true rfl) dX4_placeOf_2 (Jk_v rfl rfl fun hok4 => ?_)
  refine J_if_eq (pc := 5) (tgt := 12) dX4_placeOf_5 (by decide) (fun c5 => ?_) (fun c5 => ?_)
  · replace h := ifp c5 h
    refine J_aload_n (pc := 12) dX4_placeOf_12 rfl 0 rfl ?_
    refine get_53_3 (pc := 13) w_1026 dX4_placeOf_13 ?_
    refine J_bipush (v := (7 : Int32)) (pc := 16) dX4_placeOf_16 (by decide) ?_
    refine J_iload_n (pc := 18) dX4_placeOf_18 rfl 1 rfl ?_
    refine J_iadd (pc := 19) dX4_placeOf_19 ?_
    obtain ⟨v6, e7, hk8, h⟩ := ldi_e h
    refine J_iald (c := 55) (N := 82) (pc := 20) ja_55 (Nat.le_of_ble_eq_true rfl) hk8 dX4_placeOf_20 ?_
    refine J_topi e7 ?_
    cases h
    exact J_ireturn dX4_placeOf_21 rfl rfl rfl rfl rfl
  · replace h := ifn c5 h
    refine J_iconst (v := (0 : Int32)) (pc := 8) dX4_placeOf_8 (by decide) ?_
    refine J_goto (pc := 9) (tgt := 21) dX4_placeOf_9 (by decide) ?_
    cases h
    exact J_ireturn dX4_placeOf_21 rfl rfl rfl rfl rfl
set_option maxHeartbeats 4000000 in
set_option maxRecDepth 100000 in
theorem k_X4_lengthOf {E : En} (a1 : Int32) (M : Wd) {r : Int32} {M' : Wd} (h : F_X4_lengthOf a1 M = some (r, M')) : Con E mi_X4_lengthOf [.ref 53, .int a1] M (.inl (some (.int r))) M' := by
  unfold F_X4_lengthOf at h
  refine Con.of (by decide) rfl (Nat.le_of_ble_eq_true rfl) (fun κ => ?_)
  show J κ E mi_X4_lengthOf _ 0 0 [(0, .ref 53), (1, .int a1)] M 0 []
  refine J_aload_n (pc := 0) dX4_lengthOf_0 rfl 0 rfl ?_
  refine J_iload_n (pc := 1) dX4_lengthOf_1 rfl 1 rfl ?_
  obtain ⟨v1, M2, hc3, h⟩ := obind2_e h
  refine J_callV (g := mi_X4_noCar) (ci := 4) (pc := 2) [.int a1] [] mv_X4_noCar w_1361 (k_X4_noCar a1 _ hc3) rfl (by decide) rfl rfl rfl ⟨⟨Nat.le_of_ble_eq_true rfl, Nat.le_of_ble_eq_true rfl⟩, Nat.le_of_ble_eq_true rfl, Nat.le_of_ble_eq_true rfl⟩ (Nat.le_of_ble_eq_true rfl) dX4_lengthOf_2 (Jk_v rfl rfl fun hok4 => ?_)
  refine J_if_eq (pc := 5) (tgt := 12) dX4_lengthOf_5 (by decide) (fun c5 => ?_) (fun c5 => ?_)
  · replace h := ifp c5 h
    refine J_aload_n (pc := 12) dX4_lengthOf_12 rfl 0 rfl ?_
    refine get_53_3 (pc := 13) w_1026 dX4_lengthOf_13 ?_
    refine J_bipush (v := (13 : Int32)) (pc := 16) dX4_lengthOf_16 (by decide) ?_
    refine J_iload_n (pc := 18) dX4_lengthOf_18 rfl 1 rfl ?_
    refine J_iadd (pc := 19) dX4_lengthOf_19 ?_
    obtain ⟨v6, e7, hk8, h⟩ := ldi_e h
    refine J_iald (c := 55) (N := 82) (pc := 20) ja_55 (Nat.le_of_ble_eq_true rfl) hk8 dX4_lengthOf_20 ?_
    refine J_topi e7 ?_
    cases h
    exact J_ireturn dX4_lengthOf_21 rfl rfl rfl rfl rfl
  · replace h := ifn c5 h
    refine J_iconst (v := (0 : Int32)) (pc := 8) dX4_lengthOf_8 (by decide) ?_
    refine J_goto (pc := 9) (tgt := 21) dX4_lengthOf_9 (by decide) ?_
    cases h
    exact J_ireturn dX4_lengthOf_21 rfl rfl rfl rfl rfl
set_option maxHeartbeats 4000000 in
set_option maxRecDepth 100000 in
theorem kL_X4_carAt_L2 {κ : Kx} {E : En} {Q : State → Prop} {ρ : Type} {r : ρ} (a1 : Int32) (M : Wd) (K25 : Int32 → Option ρ) (K33 : Option ρ) (hK25 : ∀ (x2 : Int32), K25 x2 = some r → J κ E mi_X4_carAt Q 0 0 [(2, .int x2)] M 25 []) (hK33 : K33 = some r → J κ E mi_X4_carAt Q 0 0 [] M 33 []) : ∀ (m : Nat) (x2 : Int32), F_X4_carAt_L2 a1 M K25 K33 m x2 = some r → J κ E mi_X4_carAt Q 0 0 [(0, .ref 53), (1, .int a1), (2, .int x2)] M 2 [] := by
  intro m
  induction m with
  | zero => intro x2 h; exact (nomatch (show (none : Option ρ) = some r from h))
  | succ m ih =>
    intro x2 h
    unfold F_X4_carAt_L2 at h
    refine J_iload_n (pc := 2) dX4_carAt_2 rfl 2 rfl ?_
    refine J_aload_n (pc := 3) dX4_carAt_3 rfl 0 rfl ?_
    refine get_53_3 (pc := 4) w_1026 dX4_carAt_4 ?_
    refine J_iconst (v := (0 : Int32)) (pc := 7) dX4_carAt_7 (by decide) ?_
    refine J_iald (c := 55) (N := 82) (pc := 8) ja_55 (Nat.le_of_ble_eq_true rfl) (vpc rfl) dX4_carAt_8 ?_
    refine J_topi (x := M.1 55 (Int32.toNatClampNeg 0)) (y := (M.1 55 0)) (Eq.symm (a := M.1 55 (Int32.toNatClampNeg 0)) (show M.1 55 0 = (M.1 55 0) from rfl)) ?_
    refine J_icmp_ge (pc := 9) (tgt := 33) dX4_carAt_9 (by decide) (fun c1 => ?_) (fun c1 => ?_)
    · replace h := ifp c1 h
      refine J_sub [] rfl ?_
      exact hK33 h
    · replace h := ifn c1 h
      refine J_aload_n (pc := 12) dX4_carAt_12 rfl 0 rfl ?_
      refine J_iload_n (pc := 13) dX4_carAt_13 rfl 2 rfl ?_
      obtain ⟨v2, hc3, h⟩ := obind_e h
      refine J_callV (g := mi_X4_cellsOf) (ci := 4) (pc := 14) [.int x2] [] mv_X4_cellsOf w_1116 (k_X4_cellsOf x2 _ hc3) rfl (by decide) rfl rfl rfl ⟨⟨Nat.le_of_ble_eq_true rfl, Nat.le_of_ble_eq_true rfl⟩, Nat.le_of_ble_eq_true rfl, Nat.le_of_ble_eq_true rfl⟩ (Nat.le_of_ble_eq_true rfl) dX4_carAt_14 (Jk_v rfl rfl fun hok4 => ?_)
      refine J_iload_n (pc := 17) dX4_carAt_17 rfl 1 rfl ?_
      refine J_ishr (pc := 18) dX4_carAt_18 ?_
      refine J_iconst (v := (1 : Int32)) (pc := 19) dX4_carAt_19 (by decide) ?_
      refine J_iand (pc := 20) dX4_carAt_20 ?_
      refine J_iconst (v := (1 : Int32)) (pc := 21) dX4_carAt_21 (by decide) ?_
      refine J_icmp_ne (pc := 22) (tgt := 27) dX4_carAt_22 (by decide) (fun c5 => ?_) (fun c5 => ?_)
      · replace h := ifn c5 h
        obtain ⟨v6, e7, h⟩ := bnd_e h
        refine J_iinc (v := v6) (pc := 27) dX4_carAt_27 2 rfl (by rw [e7]; rfl) (Nat.le_of_ble_eq_true rfl) [1, 2, 0] rfl ?_
        refine J_goto (pc := 30) (tgt := 2) dX4_carAt_30 (by decide) ?_
        exact ih _ h
      · replace h := ifp c5 h
        refine J_sub [2] rfl ?_
        exact hK25 _ h
set_option maxHeartbeats 4000000 in
set_option maxRecDepth 100000 in
theorem k_X4_carAt {E : En} (a1 : Int32) (M : Wd) {r : Int32} (h : F_X4_carAt a1 M = some r) : Con E mi_X4_carAt [.ref 53, .int a1] M (.inl (some (.int r))) M := by
  unfold F_X4_carAt at h
  refine Con.of (by decide) rfl (Nat.le_of_ble_eq_true rfl) (fun κ => ?_)
  show J κ E mi_X4_carAt _ 0 0 [(0, .ref 53), (1, .int a1)] M 0 []
  refine J_iconst (v := (0 : Int32)) (pc := 0) dX4_carAt_0 (by decide) ?_
  refine J_istore_n (pc := 1) dX4_carAt_1 rfl (Nat.le_of_ble_eq_true rfl) [1, 2, 0] rfl ?_
  refine kL_X4_carAt_L2 _ _ _ _ (fun v8 h => ?_) (fun h => ?_) fuelN _ h
  · refine J_iload_n (pc := 25) dX4_carAt_25 rfl 0 rfl ?_
    cases h
    exact J_ireturn dX4_carAt_26 rfl rfl rfl rfl rfl
  · refine J_iconst (v := (-1 : Int32)) (pc := 33) dX4_carAt_33 (by decide) ?_
    cases h
    exact J_ireturn dX4_carAt_34 rfl rfl rfl rfl rfl
set_option maxHeartbeats 4000000 in
set_option maxRecDepth 100000 in
theorem k_X4_carOn {E : En} (a1 : Int32) (M : Wd) {r : Int32} {M' : Wd} (h : F_X4_carOn a1 M = some (r, M')) : Con E mi_X4_carOn [.ref 53, .int a1] M (.inl (some (.int r))) M' := by
  unfold F_X4_carOn at h
  refine Con.of (by decide) rfl (Nat.le_of_ble_eq_true rfl) (fun κ => ?_)
  show J κ E mi_X4_carOn _ 0 0 [(0, .ref 53), (1, .int a1)] M 0 []
  refine J_aload_n (pc := 0) dX4_carOn_0 rfl 0 rfl ?_
  refine J_iload_n (pc := 1) dX4_carOn_1 rfl 1 rfl ?_
  refine J_callS (g := mi_X4_isCell) (pc := 2) [.int a1] [.ref 53] ms_X4_isCell w_1143 (k_X4_isCell a1 _) rfl rfl ⟨⟨Nat.le_of_ble_eq_true rfl, Nat.le_of_ble_eq_true rfl⟩, Nat.le_of_ble_eq_true rfl, Nat.le_of_ble_eq_true rfl⟩ (Nat.le_of_ble_eq_true rfl) dX4_carOn_2 (Jk_v rfl rfl fun hok1 => ?_)
  obtain ⟨v2, e3, h⟩ := bnd_e h
  have hb5 : isB v2 := by rw [e3]; repeat (first | exact Or.inl rfl | exact Or.inr rfl | assumption | exact okB_b (by assumption) | apply isB_ite)
  refine J_join [(0, .ref 53), (1, .int a1)] M 13 [.int v2, .ref 53] ?_ (fun hJ => ?_)
  · obtain ⟨v6, M7, hc8, h⟩ := obind2_e h
    refine J_callV (g := mi_X4_refused) (ci := 4) (pc := 13) [.int v2] [] mv_X4_refused w_1120 (k_X4_refused v2 _ hc8) rfl (by decide) rfl rfl rfl ⟨⟨Nat.le_of_ble_eq_true rfl, Nat.le_of_ble_eq_true rfl⟩, Nat.le_of_ble_eq_true rfl, Nat.le_of_ble_eq_true rfl⟩ (Nat.le_of_ble_eq_true rfl) dX4_carOn_13 (Jk_v rfl rfl fun hok9 => ?_)
    refine J_if_eq (pc := 16) (tgt := 23) dX4_carOn_16 (by decide) (fun c10 => ?_) (fun c10 => ?_)
    · replace h := ifp c10 h
      refine J_aload_n (pc := 23) dX4_carOn_23 rfl 0 rfl ?_
      refine J_iload_n (pc := 24) dX4_carOn_24 rfl 1 rfl ?_
      obtain ⟨v11, hc12, h⟩ := obind_e h
      refine J_callV (g := mi_X4_carAt) (ci := 4) (pc := 25) [.int a1] [] mv_X4_carAt w_1377 (k_X4_carAt a1 _ hc12) rfl (by decide) rfl rfl rfl ⟨⟨Nat.le_of_ble_eq_true rfl, Nat.le_of_ble_eq_true rfl⟩, Nat.le_of_ble_eq_true rfl, Nat.le_of_ble_eq_true rfl⟩ (Nat.le_of_ble_eq_true rfl) dX4_carOn_25 (Jk_v rfl rfl fun hok13 => ?_)
      cases h
      exact J_ireturn dX4_carOn_28 rfl rfl rfl rfl rfl
    · replace h := ifn c10 h
      refine J_iconst (v := (0 : Int32)) (pc := 19) dX4_carOn_19 (by decide) ?_
      refine J_goto (pc := 20) (tgt := 28) dX4_carOn_20 (by decide) ?_
      cases h
      exact J_ireturn dX4_carOn_28 rfl rfl rfl rfl rfl
  · refine J_if_eq (pc := 5) (tgt := 12) dX4_carOn_5 (by decide) (fun c4 => ?_) (fun c4 => ?_)
    · refine J_iconst (v := (1 : Int32)) (pc := 12) dX4_carOn_12 (by decide) ?_
      refine J_topi (y := v2) (by rw [e3, if_pos c4]) ?_
      exact hJ
    · refine J_iconst (v := (0 : Int32)) (pc := 8) dX4_carOn_8 (by decide) ?_
      refine J_goto (pc := 9) (tgt := 13) dX4_carOn_9 (by decide) ?_
      refine J_topi (y := v2) (by rw [e3, if_neg c4]) ?_
      exact hJ
set_option maxHeartbeats 4000000 in
set_option maxRecDepth 100000 in
theorem k_X4_isWall {E : En} (a1 : Int32) (M : Wd) {r : Int32} {M' : Wd} (h : F_X4_isWall a1 M = some (r, M')) : Con E mi_X4_isWall [.ref 53, .int a1] M (.inl (some (.int r))) M' := by
  unfold F_X4_isWall at h
  refine Con.of (by decide) rfl (Nat.le_of_ble_eq_true rfl) (fun κ => ?_)
  show J κ E mi_X4_isWall _ 0 0 [(0, .ref 53), (1, .int a1)] M 0 []
  refine J_aload_n (pc := 0) dX4_isWall_0 rfl 0 rfl ?_
  refine J_iload_n (pc := 1) dX4_isWall_1 rfl 1 rfl ?_
  refine J_callS (g := mi_X4_isCell) (pc := 2) [.int a1] [.ref 53] ms_X4_isCell w_1143 (k_X4_isCell a1 _) rfl rfl ⟨⟨Nat.le_of_ble_eq_true rfl, Nat.le_of_ble_eq_true rfl⟩, Nat.le_of_ble_eq_true rfl, Nat.le_of_ble_eq_true rfl⟩ (Nat.le_of_ble_eq_true rfl) dX4_isWall_2 (Jk_v rfl rfl fun hok1 => ?_)
  obtain ⟨v2, e3, h⟩ := bnd_e h
  have hb5 : isB v2 := by rw [e3]; repeat (first | exact Or.inl rfl | exact Or.inr rfl | assumption | exact okB_b (by assumption) | apply isB_ite)
  refine J_join [(0, .ref 53), (1, .int a1)] M 13 [.int v2, .ref 53] ?_ (fun hJ => ?_)
  · obtain ⟨v6, M7, hc8, h⟩ := obind2_e h
    refine J_callV (g := mi_X4_refused) (ci := 4) (pc := 13) [.int v2] [] mv_X4_refused w_1120 (k_X4_refused v2 _ hc8) rfl (by decide) rfl rfl rfl ⟨⟨Nat.le_of_ble_eq_true rfl, Nat.le_of_ble_eq_true rfl⟩, Nat.le_of_ble_eq_true rfl, Nat.le_of_ble_eq_true rfl⟩ (Nat.le_of_ble_eq_true rfl) dX4_isWall_13 (Jk_v rfl rfl fun hok9 => ?_)
    refine J_if_ne (pc := 16) (tgt := 31) dX4_isWall_16 (by decide) (fun c10 => ?_) (fun c10 => ?_)
    · replace h := ifn c10 h
      refine J_iconst (v := (0 : Int32)) (pc := 31) dX4_isWall_31 (by decide) ?_
      cases h
      exact J_zreturn dX4_isWall_32 rfl (Or.inl rfl) rfl rfl rfl rfl
    · replace h := ifp c10 h
      refine J_aload_n (pc := 19) dX4_isWall_19 rfl 0 rfl ?_
      refine J_iload_n (pc := 20) dX4_isWall_20 rfl 1 rfl ?_
      refine J_callV (g := mi_X4_hasWall) (ci := 4) (pc := 21) [.int a1] [] mv_X4_hasWall w_1151 (k_X4_hasWall a1 _) rfl (by decide) rfl rfl rfl ⟨⟨Nat.le_of_ble_eq_true rfl, Nat.le_of_ble_eq_true rfl⟩, Nat.le_of_ble_eq_true rfl, Nat.le_of_ble_eq_true rfl⟩ (Nat.le_of_ble_eq_true rfl) dX4_isWall_21 (Jk_v rfl rfl fun hok11 => ?_)
      refine J_if_eq (pc := 24) (tgt := 31) dX4_isWall_24 (by decide) (fun c12 => ?_) (fun c12 => ?_)
      · replace h := ifp c12 h
        refine J_iconst (v := (0 : Int32)) (pc := 31) dX4_isWall_31 (by decide) ?_
        cases h
        exact J_zreturn dX4_isWall_32 rfl (Or.inl rfl) rfl rfl rfl rfl
      · replace h := ifn c12 h
        refine J_iconst (v := (1 : Int32)) (pc := 27) dX4_isWall_27 (by decide) ?_
        refine J_goto (pc := 28) (tgt := 32) dX4_isWall_28 (by decide) ?_
        cases h
        exact J_zreturn dX4_isWall_32 rfl (Or.inr rfl) rfl rfl rfl rfl
  · refine J_if_eq (pc := 5) (tgt := 12) dX4_isWall_5 (by decide) (fun c4 => ?_) (fun c4 => ?_)
    · refine J_iconst (v := (1 : Int32)) (pc := 12) dX4_isWall_12 (by decide) ?_
      refine J_topi (y := v2) (by rw [e3, if_pos c4]) ?_
      exact hJ
    · refine J_iconst (v := (0 : Int32)) (pc := 8) dX4_isWall_8 (by decide) ?_
      refine J_goto (pc := 9) (tgt := 13) dX4_isWall_9 (by decide) ?_
      refine J_topi (y := v2) (by rw [e3, if_neg c4]) ?_
      exact hJ
set_option maxHeartbeats 4000000 in
set_option maxRecDepth 100000 in
theorem k_X4_freeCells {E : En} (M : Wd) {r : Int32} {M' : Wd} (h : F_X4_freeCells M = some (r, M')) : Con E mi_X4_freeCells [.ref 53] M (.inl (some (.int r))) M' := by
  unfold F_X4_freeCells at h
  refine Con.of (by decide) rfl (Nat.le_of_ble_eq_true rfl) (fun κ => ?_)
  show J κ E mi_X4_freeCells _ 0 0 [(0, .ref 53)] M 0 []
  refine J_aload_n (pc := 0) dX4_freeCells_0 rfl 0 rfl ?_
  refine J_bipush (v := (25 : Int32)) (pc := 1) dX4_freeCells_1 (by decide) ?_
  refine J_aload_n (pc := 3) dX4_freeCells_3 rfl 0 rfl ?_
  obtain ⟨v1, hc2, h⟩ := obind_e h
  refine J_callV (g := mi_X4_occupied) (ci := 4) (pc := 4) [] [.int (25 : Int32), .ref 53] mv_X4_occupied w_1112 (k_X4_occupied _ hc2) rfl (by decide) rfl rfl rfl ⟨⟨Nat.le_of_ble_eq_true rfl, Nat.le_of_ble_eq_true rfl⟩, Nat.le_of_ble_eq_true rfl, Nat.le_of_ble_eq_true rfl⟩ (Nat.le_of_ble_eq_true rfl) dX4_freeCells_4 (Jk_v rfl rfl fun hok3 => ?_)
  obtain ⟨v4, hc5, h⟩ := obind_e h
  refine J_callS (g := mi_X4_bits) (pc := 7) [.int v1] [.int (25 : Int32), .ref 53] ms_X4_bits w_1155 (k_X4_bits v1 _ hc5) rfl rfl ⟨⟨Nat.le_of_ble_eq_true rfl, Nat.le_of_ble_eq_true rfl⟩, Nat.le_of_ble_eq_true rfl, Nat.le_of_ble_eq_true rfl⟩ (Nat.le_of_ble_eq_true rfl) dX4_freeCells_7 (Jk_v rfl rfl fun hok6 => ?_)
  refine J_isub (pc := 10) dX4_freeCells_10 ?_
  obtain ⟨v7, M8, hc9, h⟩ := obind2_e h
  refine J_callV (g := mi_X4_told) (ci := 4) (pc := 11) [.int ((25 : Int32) - v4)] [] mv_X4_told w_1349 (k_X4_told ((25 : Int32) - v4) _ hc9) rfl (by decide) rfl rfl rfl ⟨⟨Nat.le_of_ble_eq_true rfl, Nat.le_of_ble_eq_true rfl⟩, Nat.le_of_ble_eq_true rfl, Nat.le_of_ble_eq_true rfl⟩ (Nat.le_of_ble_eq_true rfl) dX4_freeCells_11 (Jk_v rfl rfl fun hok10 => ?_)
  cases h
  exact J_ireturn dX4_freeCells_14 rfl rfl rfl rfl rfl
set_option maxHeartbeats 4000000 in
set_option maxRecDepth 100000 in
theorem k_X4_isOut {E : En} (M : Wd) {r : Int32} {M' : Wd} (h : F_X4_isOut M = some (r, M')) : Con E mi_X4_isOut [.ref 53] M (.inl (some (.int r))) M' := by
  unfold F_X4_isOut at h
  refine Con.of (by decide) rfl (Nat.le_of_ble_eq_true rfl) (fun κ => ?_)
  show J κ E mi_X4_isOut _ 0 0 [(0, .ref 53)] M 0 []
  refine J_aload_n (pc := 0) dX4_isOut_0 rfl 0 rfl ?_
  refine J_iconst (v := (0 : Int32)) (pc := 1) dX4_isOut_1 (by decide) ?_
  refine put_53_0 (pc := 2) w_1023 dX4_isOut_2 ?_
  refine J_aload_n (pc := 5) dX4_isOut_5 rfl 0 rfl ?_
  refine J_callV (g := mi_X4_isFree) (ci := 4) (pc := 6) [] [] mv_X4_isFree w_1393 (k_X4_isFree _) rfl (by decide) rfl rfl rfl ⟨⟨Nat.le_of_ble_eq_true rfl, Nat.le_of_ble_eq_true rfl⟩, Nat.le_of_ble_eq_true rfl, Nat.le_of_ble_eq_true rfl⟩ (Nat.le_of_ble_eq_true rfl) dX4_isOut_6 (Jk_v rfl rfl fun hok1 => ?_)
  cases h
  exact J_zreturn dX4_isOut_9 rfl (okB_b hok1) rfl rfl rfl rfl
set_option maxHeartbeats 4000000 in
set_option maxRecDepth 100000 in
theorem k_X4_room {E : En} (a1 : Int32) (a2 : Int32) (M : Wd) {r : Int32} {M' : Wd} (h : F_X4_room a1 a2 M = some (r, M')) : Con E mi_X4_room [.ref 53, .int a1, .int a2] M (.inl (some (.int r))) M' := by
  unfold F_X4_room at h
  refine Con.of (by decide) rfl (Nat.le_of_ble_eq_true rfl) (fun κ => ?_)
  show J κ E mi_X4_room _ 0 0 [(0, .ref 53), (1, .int a1), (2, .int a2)] M 0 []
  refine J_aload_n (pc := 0) dX4_room_0 rfl 0 rfl ?_
  refine J_iload_n (pc := 1) dX4_room_1 rfl 1 rfl ?_
  obtain ⟨v1, M2, hc3, h⟩ := obind2_e h
  refine J_callV (g := mi_X4_noCar) (ci := 4) (pc := 2) [.int a1] [] mv_X4_noCar w_1361 (k_X4_noCar a1 _ hc3) rfl (by decide) rfl rfl rfl ⟨⟨Nat.le_of_ble_eq_true rfl, Nat.le_of_ble_eq_true rfl⟩, Nat.le_of_ble_eq_true rfl, Nat.le_of_ble_eq_true rfl⟩ (Nat.le_of_ble_eq_true rfl) dX4_room_2 (Jk_v rfl rfl fun hok4 => ?_)
  refine J_if_eq (pc := 5) (tgt := 12) dX4_room_5 (by decide) (fun c5 => ?_) (fun c5 => ?_)
  · replace h := ifp c5 h
    refine J_aload_n (pc := 12) dX4_room_12 rfl 0 rfl ?_
    refine J_iload_n (pc := 13) dX4_room_13 rfl 1 rfl ?_
    refine J_iload_n (pc := 14) dX4_room_14 rfl 2 rfl ?_
    obtain ⟨v6, e7, h⟩ := bnd_e h
    refine J_join [] M2 23 [.int v6, .int a1, .ref 53] ?_ (fun hJ => ?_)
    · obtain ⟨v9, hc10, h⟩ := obind_e h
      refine J_callV (g := mi_X4_space) (ci := 4) (pc := 23) [.int a1, .int v6] [] mv_X4_space w_1178 (k_X4_space a1 v6 _ hc10) rfl (by decide) rfl rfl rfl ⟨⟨Nat.le_of_ble_eq_true rfl, Nat.le_of_ble_eq_true rfl⟩, Nat.le_of_ble_eq_true rfl, Nat.le_of_ble_eq_true rfl⟩ (Nat.le_of_ble_eq_true rfl) dX4_room_23 (Jk_v rfl rfl fun hok11 => ?_)
      cases h
      exact J_ireturn dX4_room_26 rfl rfl rfl rfl rfl
    · refine J_if_eq (pc := 15) (tgt := 22) dX4_room_15 (by decide) (fun c8 => ?_) (fun c8 => ?_)
      · refine J_iconst (v := (-1 : Int32)) (pc := 22) dX4_room_22 (by decide) ?_
        refine J_sub [] rfl ?_
        refine J_topi (y := v6) (by rw [e7, if_pos c8]) ?_
        exact hJ
      · refine J_iconst (v := (1 : Int32)) (pc := 18) dX4_room_18 (by decide) ?_
        refine J_goto (pc := 19) (tgt := 23) dX4_room_19 (by decide) ?_
        refine J_sub [] rfl ?_
        refine J_topi (y := v6) (by rw [e7, if_neg c8]) ?_
        exact hJ
  · replace h := ifn c5 h
    refine J_iconst (v := (0 : Int32)) (pc := 8) dX4_room_8 (by decide) ?_
    refine J_goto (pc := 9) (tgt := 26) dX4_room_9 (by decide) ?_
    cases h
    exact J_ireturn dX4_room_26 rfl rfl rfl rfl rfl
set_option maxHeartbeats 4000000 in
set_option maxRecDepth 100000 in
theorem kL_X4_slides_L4 {κ : Kx} {E : En} {Q : State → Prop} {ρ : Type} {r : ρ} (M : Wd) (K36 : Int32 → Option ρ) (hK36 : ∀ (x1 : Int32), K36 x1 = some r → J κ E mi_X4_slides Q 0 0 [(1, .int x1)] M 36 []) : ∀ (m : Nat) (x1 : Int32) (x2 : Int32), F_X4_slides_L4 M K36 m x1 x2 = some r → J κ E mi_X4_slides Q 0 0 [(0, .ref 53), (1, .int x1), (2, .int x2)] M 4 [] := by
  intro m
  induction m with
  | zero => intro x1 x2 h; exact (nomatch (show (none : Option ρ) = some r from h))
  | succ m ih =>
    intro x1 x2 h
    unfold F_X4_slides_L4 at h
    refine J_iload_n (pc := 4) dX4_slides_4 rfl 2 rfl ?_
    refine J_aload_n (pc := 5) dX4_slides_5 rfl 0 rfl ?_
    refine get_53_3 (pc := 6) w_1026 dX4_slides_6 ?_
    refine J_iconst (v := (0 : Int32)) (pc := 9) dX4_slides_9 (by decide) ?_
    refine J_iald (c := 55) (N := 82) (pc := 10) ja_55 (Nat.le_of_ble_eq_true rfl) (vpc rfl) dX4_slides_10 ?_
    refine J_topi (x := M.1 55 (Int32.toNatClampNeg 0)) (y := (M.1 55 0)) (Eq.symm (a := M.1 55 (Int32.toNatClampNeg 0)) (show M.1 55 0 = (M.1 55 0) from rfl)) ?_
    refine J_icmp_ge (pc := 11) (tgt := 36) dX4_slides_11 (by decide) (fun c1 => ?_) (fun c1 => ?_)
    · replace h := ifp c1 h
      refine J_sub [1] rfl ?_
      exact hK36 _ h
    · replace h := ifn c1 h
      refine J_iload_n (pc := 14) dX4_slides_14 rfl 1 rfl ?_
      refine J_aload_n (pc := 15) dX4_slides_15 rfl 0 rfl ?_
      refine J_iload_n (pc := 16) dX4_slides_16 rfl 2 rfl ?_
      refine J_iconst (v := (1 : Int32)) (pc := 17) dX4_slides_17 (by decide) ?_
      obtain ⟨v2, hc3, h⟩ := obind_e h
      refine J_callV (g := mi_X4_space) (ci := 4) (pc := 18) [.int x2, .int (1 : Int32)] [.int x1] mv_X4_space w_1178 (k_X4_space x2 (1 : Int32) _ hc3) rfl (by decide) rfl rfl rfl ⟨⟨Nat.le_of_ble_eq_true rfl, Nat.le_of_ble_eq_true rfl⟩, Nat.le_of_ble_eq_true rfl, Nat.le_of_ble_eq_true rfl⟩ (Nat.le_of_ble_eq_true rfl) dX4_slides_18 (Jk_v rfl rfl fun hok4 => ?_)
      refine J_aload_n (pc := 21) dX4_slides_21 rfl 0 rfl ?_
      refine J_iload_n (pc := 22) dX4_slides_22 rfl 2 rfl ?_
      refine J_iconst (v := (-1 : Int32)) (pc := 23) dX4_slides_23 (by decide) ?_
      obtain ⟨v5, hc6, h⟩ := obind_e h
      refine J_callV (g := mi_X4_space) (ci := 4) (pc := 24) [.int x2, .int (-1 : Int32)] [.int v2, .int x1] mv_X4_space w_1178 (k_X4_space x2 (-1 : Int32) _ hc6) rfl (by decide) rfl rfl rfl ⟨⟨Nat.le_of_ble_eq_true rfl, Nat.le_of_ble_eq_true rfl⟩, Nat.le_of_ble_eq_true rfl, Nat.le_of_ble_eq_true rfl⟩ (Nat.le_of_ble_eq_true rfl) dX4_slides_24 (Jk_v rfl rfl fun hok7 => ?_)
      refine J_iadd (pc := 27) dX4_slides_27 ?_
      refine J_iadd (pc := 28) dX4_slides_28 ?_
      obtain ⟨v8, e9, h⟩ := bnd_e h
      refine J_topi e9 ?_
      refine J_istore_n (pc := 29) dX4_slides_29 rfl (Nat.le_of_ble_eq_true rfl) [1, 0, 2] rfl ?_
      obtain ⟨v10, e11, h⟩ := bnd_e h
      refine J_iinc (v := v10) (pc := 30) dX4_slides_30 2 rfl (by rw [e11]; rfl) (Nat.le_of_ble_eq_true rfl) [1, 2, 0] rfl ?_
      refine J_LS [(0, .ref 53), (1, .int v8), (2, .int v10)] [] rfl rfl ?_
      refine J_goto (pc := 33) (tgt := 4) dX4_slides_33 (by decide) ?_
      exact ih _ _ h
set_option maxHeartbeats 4000000 in
set_option maxRecDepth 100000 in
theorem k_X4_slides {E : En} (M : Wd) {r : Int32} (h : F_X4_slides M = some r) : Con E mi_X4_slides [.ref 53] M (.inl (some (.int r))) M := by
  unfold F_X4_slides at h
  refine Con.of (by decide) rfl (Nat.le_of_ble_eq_true rfl) (fun κ => ?_)
  show J κ E mi_X4_slides _ 0 0 [(0, .ref 53)] M 0 []
  refine J_iconst (v := (0 : Int32)) (pc := 0) dX4_slides_0 (by decide) ?_
  refine J_istore_n (pc := 1) dX4_slides_1 rfl (Nat.le_of_ble_eq_true rfl) [1, 0] rfl ?_
  refine J_iconst (v := (0 : Int32)) (pc := 2) dX4_slides_2 (by decide) ?_
  refine J_istore_n (pc := 3) dX4_slides_3 rfl (Nat.le_of_ble_eq_true rfl) [1, 2, 0] rfl ?_
  refine J_LS [(0, .ref 53), (1, .int (0 : Int32)), (2, .int (0 : Int32))] [] rfl rfl ?_
  refine kL_X4_slides_L4 _ _ (fun v12 h => ?_) fuelN _ _ h
  refine J_iload_n (pc := 36) dX4_slides_36 rfl 0 rfl ?_
  cases h
  exact J_ireturn dX4_slides_37 rfl rfl rfl rfl rfl
set_option maxHeartbeats 4000000 in
set_option maxRecDepth 100000 in
theorem k_X4_possibleSlides {E : En} (M : Wd) {r : Int32} {M' : Wd} (h : F_X4_possibleSlides M = some (r, M')) : Con E mi_X4_possibleSlides [.ref 53] M (.inl (some (.int r))) M' := by
  unfold F_X4_possibleSlides at h
  refine Con.of (by decide) rfl (Nat.le_of_ble_eq_true rfl) (fun κ => ?_)
  show J κ E mi_X4_possibleSlides _ 0 0 [(0, .ref 53)] M 0 []
  refine J_aload_n (pc := 0) dX4_possibleSlides_0 rfl 0 rfl ?_
  refine J_aload_n (pc := 1) dX4_possibleSlides_1 rfl 0 rfl ?_
  obtain ⟨v1, hc2, h⟩ := obind_e h
  refine J_callV (g := mi_X4_slides) (ci := 4) (pc := 2) [] [.ref 53] mv_X4_slides w_1405 (k_X4_slides _ hc2) rfl (by decide) rfl rfl rfl ⟨⟨Nat.le_of_ble_eq_true rfl, Nat.le_of_ble_eq_true rfl⟩, Nat.le_of_ble_eq_true rfl, Nat.le_of_ble_eq_true rfl⟩ (Nat.le_of_ble_eq_true rfl) dX4_possibleSlides_2 (Jk_v rfl rfl fun hok3 => ?_)
  obtain ⟨v4, M5, hc6, h⟩ := obind2_e h
  refine J_callV (g := mi_X4_told) (ci := 4) (pc := 5) [.int v1] [] mv_X4_told w_1349 (k_X4_told v1 _ hc6) rfl (by decide) rfl rfl rfl ⟨⟨Nat.le_of_ble_eq_true rfl, Nat.le_of_ble_eq_true rfl⟩, Nat.le_of_ble_eq_true rfl, Nat.le_of_ble_eq_true rfl⟩ (Nat.le_of_ble_eq_true rfl) dX4_possibleSlides_5 (Jk_v rfl rfl fun hok7 => ?_)
  cases h
  exact J_ireturn dX4_possibleSlides_8 rfl rfl rfl rfl rfl
set_option maxHeartbeats 4000000 in
set_option maxRecDepth 100000 in
theorem k_X4_logged {E : En} (M : Wd) {r : Int32} {M' : Wd} (h : F_X4_logged M = some (r, M')) : Con E mi_X4_logged [.ref 53] M (.inl (some (.int r))) M' := by
  unfold F_X4_logged at h
  refine Con.of (by decide) rfl (Nat.le_of_ble_eq_true rfl) (fun κ => ?_)
  show J κ E mi_X4_logged _ 0 0 [(0, .ref 53)] M 0 []
  refine J_aload_n (pc := 0) dX4_logged_0 rfl 0 rfl ?_
  refine J_aload_n (pc := 1) dX4_logged_1 rfl 0 rfl ?_
  refine get_53_3 (pc := 2) w_1026 dX4_logged_2 ?_
  refine J_bipush (v := (20 : Int32)) (pc := 5) dX4_logged_5 (by decide) ?_
  refine J_iald (c := 55) (N := 82) (pc := 7) ja_55 (Nat.le_of_ble_eq_true rfl) (vpc rfl) dX4_logged_7 ?_
  refine J_topi (x := M.1 55 (Int32.toNatClampNeg 20)) (y := (M.1 55 20)) (Eq.symm (a := M.1 55 (Int32.toNatClampNeg 20)) (show M.1 55 20 = (M.1 55 20) from rfl)) ?_
  obtain ⟨v1, M2, hc3, h⟩ := obind2_e h
  refine J_callV (g := mi_X4_told) (ci := 4) (pc := 8) [.int (M.1 55 20)] [] mv_X4_told w_1349 (k_X4_told (M.1 55 20) _ hc3) rfl (by decide) rfl rfl rfl ⟨⟨Nat.le_of_ble_eq_true rfl, Nat.le_of_ble_eq_true rfl⟩, Nat.le_of_ble_eq_true rfl, Nat.le_of_ble_eq_true rfl⟩ (Nat.le_of_ble_eq_true rfl) dX4_logged_8 (Jk_v rfl rfl fun hok4 => ?_)
  cases h
  exact J_ireturn dX4_logged_11 rfl rfl rfl rfl rfl
set_option maxHeartbeats 4000000 in
set_option maxRecDepth 100000 in
theorem k_X4_noSlide {E : En} (a1 : Int32) (M : Wd) {r : Int32} {M' : Wd} (h : F_X4_noSlide a1 M = some (r, M')) : Con E mi_X4_noSlide [.ref 53, .int a1] M (.inl (some (.int r))) M' := by
  unfold F_X4_noSlide at h
  refine Con.of (by decide) rfl (Nat.le_of_ble_eq_true rfl) (fun κ => ?_)
  show J κ E mi_X4_noSlide _ 0 0 [(0, .ref 53), (1, .int a1)] M 0 []
  refine J_aload_n (pc := 0) dX4_noSlide_0 rfl 0 rfl ?_
  refine J_iload_n (pc := 1) dX4_noSlide_1 rfl 1 rfl ?_
  refine J_i2l (pc := 2) dX4_noSlide_2 ?_
  refine J_lconst (v := (0 : Int64)) (pc := 3) dX4_noSlide_3 (by decide) ?_
  refine J_aload_n (pc := 4) dX4_noSlide_4 rfl 0 rfl ?_
  refine get_53_3 (pc := 5) w_1026 dX4_noSlide_5 ?_
  refine J_bipush (v := (20 : Int32)) (pc := 8) dX4_noSlide_8 (by decide) ?_
  refine J_iald (c := 55) (N := 82) (pc := 10) ja_55 (Nat.le_of_ble_eq_true rfl) (vpc rfl) dX4_noSlide_10 ?_
  refine J_topi (x := M.1 55 (Int32.toNatClampNeg 20)) (y := (M.1 55 20)) (Eq.symm (a := M.1 55 (Int32.toNatClampNeg 20)) (show M.1 55 20 = (M.1 55 20) from rfl)) ?_
  refine J_iconst (v := (1 : Int32)) (pc := 11) dX4_noSlide_11 (by decide) ?_
  refine J_isub (pc := 12) dX4_noSlide_12 ?_
  refine J_i2l (pc := 13) dX4_noSlide_13 ?_
  refine J_callS (g := mi_X4_in) (pc := 14) [.long a1.toInt64, .long (0 : Int64), .long ((M.1 55 20) - (1 : Int32)).toInt64] [.ref 53] ms_X4_in w_1104 (k_X4_in a1.toInt64 (0 : Int64) ((M.1 55 20) - (1 : Int32)).toInt64 _) rfl rfl ⟨⟨Nat.le_of_ble_eq_true rfl, Nat.le_of_ble_eq_true rfl⟩, Nat.le_of_ble_eq_true rfl, Nat.le_of_ble_eq_true rfl⟩ (Nat.le_of_ble_eq_true rfl) dX4_noSlide_14 (Jk_v rfl rfl fun hok1 => ?_)
  obtain ⟨v2, e3, h⟩ := bnd_e h
  have hb5 : isB v2 := by rw [e3]; repeat (first | exact Or.inl rfl | exact Or.inr rfl | assumption | exact okB_b (by assumption) | apply isB_ite)
  refine J_join [] M 25 [.int v2, .ref 53] ?_ (fun hJ => ?_)
  · obtain ⟨v6, M7, hc8, h⟩ := obind2_e h
    refine J_callV (g := mi_X4_refused) (ci := 4) (pc := 25) [.int v2] [] mv_X4_refused w_1120 (k_X4_refused v2 _ hc8) rfl (by decide) rfl rfl rfl ⟨⟨Nat.le_of_ble_eq_true rfl, Nat.le_of_ble_eq_true rfl⟩, Nat.le_of_ble_eq_true rfl, Nat.le_of_ble_eq_true rfl⟩ (Nat.le_of_ble_eq_true rfl) dX4_noSlide_25 (Jk_v rfl rfl fun hok9 => ?_)
    cases h
    exact J_zreturn dX4_noSlide_28 rfl (okB_b hok9) rfl rfl rfl rfl
  · refine J_if_eq (pc := 17) (tgt := 24) dX4_noSlide_17 (by decide) (fun c4 => ?_) (fun c4 => ?_)
    · refine J_iconst (v := (1 : Int32)) (pc := 24) dX4_noSlide_24 (by decide) ?_
      refine J_sub [] rfl ?_
      refine J_topi (y := v2) (by rw [e3, if_pos c4]) ?_
      exact hJ
    · refine J_iconst (v := (0 : Int32)) (pc := 20) dX4_noSlide_20 (by decide) ?_
      refine J_goto (pc := 21) (tgt := 25) dX4_noSlide_21 (by decide) ?_
      refine J_sub [] rfl ?_
      refine J_topi (y := v2) (by rw [e3, if_neg c4]) ?_
      exact hJ
set_option maxHeartbeats 4000000 in
set_option maxRecDepth 100000 in
theorem k_X4_carOfSlide {E : En} (a1 : Int32) (M : Wd) {r : Int32} {M' : Wd} (h : F_X4_carOfSlide a1 M = some (r, M')) : Con E mi_X4_carOfSlide [.ref 53, .int a1] M (.inl (some (.int r))) M' := by
  unfold F_X4_carOfSlide at h
  refine Con.of (by decide) rfl (Nat.le_of_ble_eq_true rfl) (fun κ => ?_)
  show J κ E mi_X4_carOfSlide _ 0 0 [(0, .ref 53), (1, .int a1)] M 0 []
  refine J_aload_n (pc := 0) dX4_carOfSlide_0 rfl 0 rfl ?_
  refine J_iload_n (pc := 1) dX4_carOfSlide_1 rfl 1 rfl ?_
  obtain ⟨v1, M2, hc3, h⟩ := obind2_e h
  refine J_callV (g := mi_X4_noSlide) (ci := 4) (pc := 2) [.int a1] [] mv_X4_noSlide w_1417 (k_X4_noSlide a1 _ hc3) rfl (by decide) rfl rfl rfl ⟨⟨Nat.le_of_ble_eq_true rfl, Nat.le_of_ble_eq_true rfl⟩, Nat.le_of_ble_eq_true rfl, Nat.le_of_ble_eq_true rfl⟩ (Nat.le_of_ble_eq_true rfl) dX4_carOfSlide_2 (Jk_v rfl rfl fun hok4 => ?_)
  refine J_if_eq (pc := 5) (tgt := 12) dX4_carOfSlide_5 (by decide) (fun c5 => ?_) (fun c5 => ?_)
  · replace h := ifp c5 h
    refine J_aload_n (pc := 12) dX4_carOfSlide_12 rfl 0 rfl ?_
    refine J_iload_n (pc := 13) dX4_carOfSlide_13 rfl 1 rfl ?_
    obtain ⟨v6, hc7, h⟩ := obind_e h
    refine J_callV (g := mi_X4_logCar) (ci := 4) (pc := 14) [.int a1] [] mv_X4_logCar w_1194 (k_X4_logCar a1 _ hc7) rfl (by decide) rfl rfl rfl ⟨⟨Nat.le_of_ble_eq_true rfl, Nat.le_of_ble_eq_true rfl⟩, Nat.le_of_ble_eq_true rfl, Nat.le_of_ble_eq_true rfl⟩ (Nat.le_of_ble_eq_true rfl) dX4_carOfSlide_14 (Jk_v rfl rfl fun hok8 => ?_)
    cases h
    exact J_ireturn dX4_carOfSlide_17 rfl rfl rfl rfl rfl
  · replace h := ifn c5 h
    refine J_iconst (v := (0 : Int32)) (pc := 8) dX4_carOfSlide_8 (by decide) ?_
    refine J_goto (pc := 9) (tgt := 17) dX4_carOfSlide_9 (by decide) ?_
    cases h
    exact J_ireturn dX4_carOfSlide_17 rfl rfl rfl rfl rfl
set_option maxHeartbeats 4000000 in
set_option maxRecDepth 100000 in
theorem k_X4_changeBySlide {E : En} (a1 : Int32) (M : Wd) {r : Int32} {M' : Wd} (h : F_X4_changeBySlide a1 M = some (r, M')) : Con E mi_X4_changeBySlide [.ref 53, .int a1] M (.inl (some (.int r))) M' := by
  unfold F_X4_changeBySlide at h
  refine Con.of (by decide) rfl (Nat.le_of_ble_eq_true rfl) (fun κ => ?_)
  show J κ E mi_X4_changeBySlide _ 0 0 [(0, .ref 53), (1, .int a1)] M 0 []
  refine J_aload_n (pc := 0) dX4_changeBySlide_0 rfl 0 rfl ?_
  refine J_iload_n (pc := 1) dX4_changeBySlide_1 rfl 1 rfl ?_
  obtain ⟨v1, M2, hc3, h⟩ := obind2_e h
  refine J_callV (g := mi_X4_noSlide) (ci := 4) (pc := 2) [.int a1] [] mv_X4_noSlide w_1417 (k_X4_noSlide a1 _ hc3) rfl (by decide) rfl rfl rfl ⟨⟨Nat.le_of_ble_eq_true rfl, Nat.le_of_ble_eq_true rfl⟩, Nat.le_of_ble_eq_true rfl, Nat.le_of_ble_eq_true rfl⟩ (Nat.le_of_ble_eq_true rfl) dX4_changeBySlide_2 (Jk_v rfl rfl fun hok4 => ?_)
  refine J_if_eq (pc := 5) (tgt := 12) dX4_changeBySlide_5 (by decide) (fun c5 => ?_) (fun c5 => ?_)
  · replace h := ifp c5 h
    refine J_aload_n (pc := 12) dX4_changeBySlide_12 rfl 0 rfl ?_
    refine J_iload_n (pc := 13) dX4_changeBySlide_13 rfl 1 rfl ?_
    obtain ⟨v6, hc7, h⟩ := obind_e h
    refine J_callV (g := mi_X4_logBy) (ci := 4) (pc := 14) [.int a1] [] mv_X4_logBy w_1198 (k_X4_logBy a1 _ hc7) rfl (by decide) rfl rfl rfl ⟨⟨Nat.le_of_ble_eq_true rfl, Nat.le_of_ble_eq_true rfl⟩, Nat.le_of_ble_eq_true rfl, Nat.le_of_ble_eq_true rfl⟩ (Nat.le_of_ble_eq_true rfl) dX4_changeBySlide_14 (Jk_v rfl rfl fun hok8 => ?_)
    cases h
    exact J_ireturn dX4_changeBySlide_17 rfl rfl rfl rfl rfl
  · replace h := ifn c5 h
    refine J_iconst (v := (0 : Int32)) (pc := 8) dX4_changeBySlide_8 (by decide) ?_
    refine J_goto (pc := 9) (tgt := 17) dX4_changeBySlide_9 (by decide) ?_
    cases h
    exact J_ireturn dX4_changeBySlide_17 rfl rfl rfl rfl rfl
set_option maxHeartbeats 4000000 in
set_option maxRecDepth 100000 in
theorem kL_X4_stepsBy_L4 {κ : Kx} {E : En} {Q : State → Prop} {ρ : Type} {r : ρ} (a1 : Int32) (M : Wd) (K59 : Int32 → Option ρ) (hK59 : ∀ (x2 : Int32), K59 x2 = some r → J κ E mi_X4_stepsBy Q 0 0 [(2, .int x2)] M 59 []) : ∀ (m : Nat) (x2 : Int32) (x3 : Int32), F_X4_stepsBy_L4 a1 M K59 m x2 x3 = some r → J κ E mi_X4_stepsBy Q 0 0 [(0, .ref 53), (1, .int a1), (2, .int x2), (3, .int x3)] M 4 [] := by
  intro m
  induction m with
  | zero => intro x2 x3 h; exact (nomatch (show (none : Option ρ) = some r from h))
  | succ m ih =>
    intro x2 x3 h
    unfold F_X4_stepsBy_L4 at h
    refine J_iload_n (pc := 4) dX4_stepsBy_4 rfl 3 rfl ?_
    refine J_aload_n (pc := 5) dX4_stepsBy_5 rfl 0 rfl ?_
    refine get_53_3 (pc := 6) w_1026 dX4_stepsBy_6 ?_
    refine J_bipush (v := (20 : Int32)) (pc := 9) dX4_stepsBy_9 (by decide) ?_
    refine J_iald (c := 55) (N := 82) (pc := 11) ja_55 (Nat.le_of_ble_eq_true rfl) (vpc rfl) dX4_stepsBy_11 ?_
    refine J_topi (x := M.1 55 (Int32.toNatClampNeg 20)) (y := (M.1 55 20)) (Eq.symm (a := M.1 55 (Int32.toNatClampNeg 20)) (show M.1 55 20 = (M.1 55 20) from rfl)) ?_
    refine J_icmp_ge (pc := 12) (tgt := 59) dX4_stepsBy_12 (by decide) (fun c1 => ?_) (fun c1 => ?_)
    · replace h := ifp c1 h
      refine J_sub [2] rfl ?_
      exact hK59 _ h
    · replace h := ifn c1 h
      refine J_iload_n (pc := 15) dX4_stepsBy_15 rfl 2 rfl ?_
      refine J_aload_n (pc := 16) dX4_stepsBy_16 rfl 0 rfl ?_
      refine J_iload_n (pc := 17) dX4_stepsBy_17 rfl 3 rfl ?_
      obtain ⟨v2, hc3, h⟩ := obind_e h
      refine J_callV (g := mi_X4_logCar) (ci := 4) (pc := 18) [.int x3] [.int x2] mv_X4_logCar w_1194 (k_X4_logCar x3 _ hc3) rfl (by decide) rfl rfl rfl ⟨⟨Nat.le_of_ble_eq_true rfl, Nat.le_of_ble_eq_true rfl⟩, Nat.le_of_ble_eq_true rfl, Nat.le_of_ble_eq_true rfl⟩ (Nat.le_of_ble_eq_true rfl) dX4_stepsBy_18 (Jk_v rfl rfl fun hok4 => ?_)
      refine J_iload_n (pc := 21) dX4_stepsBy_21 rfl 1 rfl ?_
      obtain ⟨v5, hv17, h⟩ := obind_e h
      refine J_join [(0, .ref 53), (1, .int a1), (3, .int x3)] M 51 [.int v5, .int x2] ?_ (fun hJ => ?_)
      · refine J_iadd (pc := 51) dX4_stepsBy_51 ?_
        obtain ⟨v18, e19, h⟩ := bnd_e h
        refine J_topi e19 ?_
        refine J_istore_n (pc := 52) dX4_stepsBy_52 rfl (Nat.le_of_ble_eq_true rfl) [1, 2, 0, 3] rfl ?_
        obtain ⟨v20, e21, h⟩ := bnd_e h
        refine J_iinc (v := v20) (pc := 53) dX4_stepsBy_53 3 rfl (by rw [e21]; rfl) (Nat.le_of_ble_eq_true rfl) [1, 2, 3, 0] rfl ?_
        refine J_LS [(0, .ref 53), (1, .int a1), (2, .int v18), (3, .int v20)] [] rfl rfl ?_
        refine J_goto (pc := 56) (tgt := 4) dX4_stepsBy_56 (by decide) ?_
        exact ih _ _ h
      · replace h := hv17
        refine J_icmp_eq (pc := 22) (tgt := 29) dX4_stepsBy_22 (by decide) (fun c6 => ?_) (fun c6 => ?_)
        · replace h := ifp c6 h
          refine J_aload_n (pc := 29) dX4_stepsBy_29 rfl 0 rfl ?_
          refine J_iload_n (pc := 30) dX4_stepsBy_30 rfl 3 rfl ?_
          obtain ⟨v7, hc8, h⟩ := obind_e h
          refine J_callV (g := mi_X4_logBy) (ci := 4) (pc := 31) [.int x3] [.int x2] mv_X4_logBy w_1198 (k_X4_logBy x3 _ hc8) rfl (by decide) rfl rfl rfl ⟨⟨Nat.le_of_ble_eq_true rfl, Nat.le_of_ble_eq_true rfl⟩, Nat.le_of_ble_eq_true rfl, Nat.le_of_ble_eq_true rfl⟩ (Nat.le_of_ble_eq_true rfl) dX4_stepsBy_31 (Jk_v rfl rfl fun hok9 => ?_)
          refine J_if_ge (pc := 34) (tgt := 46) dX4_stepsBy_34 (by decide) (fun c10 => ?_) (fun c10 => ?_)
          · replace h := ifp c10 h
            refine J_aload_n (pc := 46) dX4_stepsBy_46 rfl 0 rfl ?_
            refine J_iload_n (pc := 47) dX4_stepsBy_47 rfl 3 rfl ?_
            obtain ⟨v11, hc12, h⟩ := obind_e h
            refine J_callV (g := mi_X4_logBy) (ci := 4) (pc := 48) [.int x3] [.int x2] mv_X4_logBy w_1198 (k_X4_logBy x3 _ hc12) rfl (by decide) rfl rfl rfl ⟨⟨Nat.le_of_ble_eq_true rfl, Nat.le_of_ble_eq_true rfl⟩, Nat.le_of_ble_eq_true rfl, Nat.le_of_ble_eq_true rfl⟩ (Nat.le_of_ble_eq_true rfl) dX4_stepsBy_48 (Jk_v rfl rfl fun hok13 => ?_)
            cases h
            refine J_sub [0, 1, 3] rfl ?_
            exact hJ
          · replace h := ifn c10 h
            refine J_aload_n (pc := 37) dX4_stepsBy_37 rfl 0 rfl ?_
            refine J_iload_n (pc := 38) dX4_stepsBy_38 rfl 3 rfl ?_
            obtain ⟨v14, hc15, h⟩ := obind_e h
            refine J_callV (g := mi_X4_logBy) (ci := 4) (pc := 39) [.int x3] [.int x2] mv_X4_logBy w_1198 (k_X4_logBy x3 _ hc15) rfl (by decide) rfl rfl rfl ⟨⟨Nat.le_of_ble_eq_true rfl, Nat.le_of_ble_eq_true rfl⟩, Nat.le_of_ble_eq_true rfl, Nat.le_of_ble_eq_true rfl⟩ (Nat.le_of_ble_eq_true rfl) dX4_stepsBy_39 (Jk_v rfl rfl fun hok16 => ?_)
            refine J_ineg (pc := 42) dX4_stepsBy_42 ?_
            refine J_goto (pc := 43) (tgt := 51) dX4_stepsBy_43 (by decide) ?_
            cases h
            refine J_sub [0, 1, 3] rfl ?_
            exact hJ
        · replace h := ifn c6 h
          refine J_iconst (v := (0 : Int32)) (pc := 25) dX4_stepsBy_25 (by decide) ?_
          refine J_goto (pc := 26) (tgt := 51) dX4_stepsBy_26 (by decide) ?_
          cases h
          refine J_sub [0, 1, 3] rfl ?_
          exact hJ
set_option maxHeartbeats 4000000 in
set_option maxRecDepth 100000 in
theorem k_X4_stepsBy {E : En} (a1 : Int32) (M : Wd) {r : Int32} (h : F_X4_stepsBy a1 M = some r) : Con E mi_X4_stepsBy [.ref 53, .int a1] M (.inl (some (.int r))) M := by
  unfold F_X4_stepsBy at h
  refine Con.of (by decide) rfl (Nat.le_of_ble_eq_true rfl) (fun κ => ?_)
  show J κ E mi_X4_stepsBy _ 0 0 [(0, .ref 53), (1, .int a1)] M 0 []
  refine J_iconst (v := (0 : Int32)) (pc := 0) dX4_stepsBy_0 (by decide) ?_
  refine J_istore_n (pc := 1) dX4_stepsBy_1 rfl (Nat.le_of_ble_eq_true rfl) [1, 2, 0] rfl ?_
  refine J_iconst (v := (0 : Int32)) (pc := 2) dX4_stepsBy_2 (by decide) ?_
  refine J_istore_n (pc := 3) dX4_stepsBy_3 rfl (Nat.le_of_ble_eq_true rfl) [1, 2, 3, 0] rfl ?_
  refine J_LS [(0, .ref 53), (1, .int a1), (2, .int (0 : Int32)), (3, .int (0 : Int32))] [] rfl rfl ?_
  refine kL_X4_stepsBy_L4 _ _ _ (fun v22 h => ?_) fuelN _ _ h
  refine J_iload_n (pc := 59) dX4_stepsBy_59 rfl 0 rfl ?_
  cases h
  exact J_ireturn dX4_stepsBy_60 rfl rfl rfl rfl rfl
set_option maxHeartbeats 4000000 in
set_option maxRecDepth 100000 in
theorem k_X4_stepsOf {E : En} (a1 : Int32) (M : Wd) {r : Int32} {M' : Wd} (h : F_X4_stepsOf a1 M = some (r, M')) : Con E mi_X4_stepsOf [.ref 53, .int a1] M (.inl (some (.int r))) M' := by
  unfold F_X4_stepsOf at h
  refine Con.of (by decide) rfl (Nat.le_of_ble_eq_true rfl) (fun κ => ?_)
  show J κ E mi_X4_stepsOf _ 0 0 [(0, .ref 53), (1, .int a1)] M 0 []
  refine J_aload_n (pc := 0) dX4_stepsOf_0 rfl 0 rfl ?_
  refine J_iload_n (pc := 1) dX4_stepsOf_1 rfl 1 rfl ?_
  obtain ⟨v1, M2, hc3, h⟩ := obind2_e h
  refine J_callV (g := mi_X4_noCar) (ci := 4) (pc := 2) [.int a1] [] mv_X4_noCar w_1361 (k_X4_noCar a1 _ hc3) rfl (by decide) rfl rfl rfl ⟨⟨Nat.le_of_ble_eq_true rfl, Nat.le_of_ble_eq_true rfl⟩, Nat.le_of_ble_eq_true rfl, Nat.le_of_ble_eq_true rfl⟩ (Nat.le_of_ble_eq_true rfl) dX4_stepsOf_2 (Jk_v rfl rfl fun hok4 => ?_)
  refine J_if_eq (pc := 5) (tgt := 12) dX4_stepsOf_5 (by decide) (fun c5 => ?_) (fun c5 => ?_)
  · replace h := ifp c5 h
    refine J_aload_n (pc := 12) dX4_stepsOf_12 rfl 0 rfl ?_
    refine J_iload_n (pc := 13) dX4_stepsOf_13 rfl 1 rfl ?_
    obtain ⟨v6, hc7, h⟩ := obind_e h
    refine J_callV (g := mi_X4_stepsBy) (ci := 4) (pc := 14) [.int a1] [] mv_X4_stepsBy w_1429 (k_X4_stepsBy a1 _ hc7) rfl (by decide) rfl rfl rfl ⟨⟨Nat.le_of_ble_eq_true rfl, Nat.le_of_ble_eq_true rfl⟩, Nat.le_of_ble_eq_true rfl, Nat.le_of_ble_eq_true rfl⟩ (Nat.le_of_ble_eq_true rfl) dX4_stepsOf_14 (Jk_v rfl rfl fun hok8 => ?_)
    cases h
    exact J_ireturn dX4_stepsOf_17 rfl rfl rfl rfl rfl
  · replace h := ifn c5 h
    refine J_iconst (v := (0 : Int32)) (pc := 8) dX4_stepsOf_8 (by decide) ?_
    refine J_goto (pc := 9) (tgt := 17) dX4_stepsOf_9 (by decide) ?_
    cases h
    exact J_ireturn dX4_stepsOf_17 rfl rfl rfl rfl rfl
set_option maxHeartbeats 4000000 in
set_option maxRecDepth 100000 in
theorem kL_X4_burnt_L4 {κ : Kx} {E : En} {Q : State → Prop} {ρ : Type} {r : ρ} (M : Wd) (K38 : Int32 → Option ρ) (hK38 : ∀ (x1 : Int32), K38 x1 = some r → J κ E mi_X4_burnt Q 0 0 [(1, .int x1)] M 38 []) : ∀ (m : Nat) (x1 : Int32) (x2 : Int32), F_X4_burnt_L4 M K38 m x1 x2 = some r → J κ E mi_X4_burnt Q 0 0 [(0, .ref 53), (1, .int x1), (2, .int x2)] M 4 [] := by
  intro m
  induction m with
  | zero => intro x1 x2 h; exact (nomatch (show (none : Option ρ) = some r from h))
  | succ m ih =>
    intro x1 x2 h
    unfold F_X4_burnt_L4 at h
    refine J_iload_n (pc := 4) dX4_burnt_4 rfl 2 rfl ?_
    refine J_aload_n (pc := 5) dX4_burnt_5 rfl 0 rfl ?_
    refine get_53_3 (pc := 6) w_1026 dX4_burnt_6 ?_
    refine J_iconst (v := (0 : Int32)) (pc := 9) dX4_burnt_9 (by decide) ?_
    refine J_iald (c := 55) (N := 82) (pc := 10) ja_55 (Nat.le_of_ble_eq_true rfl) (vpc rfl) dX4_burnt_10 ?_
    refine J_topi (x := M.1 55 (Int32.toNatClampNeg 0)) (y := (M.1 55 0)) (Eq.symm (a := M.1 55 (Int32.toNatClampNeg 0)) (show M.1 55 0 = (M.1 55 0) from rfl)) ?_
    refine J_icmp_ge (pc := 11) (tgt := 38) dX4_burnt_11 (by decide) (fun c1 => ?_) (fun c1 => ?_)
    · replace h := ifp c1 h
      refine J_sub [1] rfl ?_
      exact hK38 _ h
    · replace h := ifn c1 h
      refine J_iload_n (pc := 14) dX4_burnt_14 rfl 1 rfl ?_
      refine J_aload_n (pc := 15) dX4_burnt_15 rfl 0 rfl ?_
      refine get_53_3 (pc := 16) w_1026 dX4_burnt_16 ?_
      refine J_bipush (v := (13 : Int32)) (pc := 19) dX4_burnt_19 (by decide) ?_
      refine J_iload_n (pc := 21) dX4_burnt_21 rfl 2 rfl ?_
      refine J_iadd (pc := 22) dX4_burnt_22 ?_
      obtain ⟨v2, e3, hk4, h⟩ := ldi_e h
      refine J_iald (c := 55) (N := 82) (pc := 23) ja_55 (Nat.le_of_ble_eq_true rfl) hk4 dX4_burnt_23 ?_
      refine J_topi e3 ?_
      refine J_aload_n (pc := 24) dX4_burnt_24 rfl 0 rfl ?_
      refine J_iload_n (pc := 25) dX4_burnt_25 rfl 2 rfl ?_
      obtain ⟨v5, hc6, h⟩ := obind_e h
      refine J_callV (g := mi_X4_stepsBy) (ci := 4) (pc := 26) [.int x2] [.int v2, .int x1] mv_X4_stepsBy w_1429 (k_X4_stepsBy x2 _ hc6) rfl (by decide) rfl rfl rfl ⟨⟨Nat.le_of_ble_eq_true rfl, Nat.le_of_ble_eq_true rfl⟩, Nat.le_of_ble_eq_true rfl, Nat.le_of_ble_eq_true rfl⟩ (Nat.le_of_ble_eq_true rfl) dX4_burnt_26 (Jk_v rfl rfl fun hok7 => ?_)
      refine J_imul (pc := 29) dX4_burnt_29 ?_
      refine J_iadd (pc := 30) dX4_burnt_30 ?_
      obtain ⟨v8, e9, h⟩ := bnd_e h
      refine J_topi e9 ?_
      refine J_istore_n (pc := 31) dX4_burnt_31 rfl (Nat.le_of_ble_eq_true rfl) [1, 0, 2] rfl ?_
      obtain ⟨v10, e11, h⟩ := bnd_e h
      refine J_iinc (v := v10) (pc := 32) dX4_burnt_32 2 rfl (by rw [e11]; rfl) (Nat.le_of_ble_eq_true rfl) [1, 2, 0] rfl ?_
      refine J_LS [(0, .ref 53), (1, .int v8), (2, .int v10)] [] rfl rfl ?_
      refine J_goto (pc := 35) (tgt := 4) dX4_burnt_35 (by decide) ?_
      exact ih _ _ h
set_option maxHeartbeats 4000000 in
set_option maxRecDepth 100000 in
theorem k_X4_burnt {E : En} (M : Wd) {r : Int32} (h : F_X4_burnt M = some r) : Con E mi_X4_burnt [.ref 53] M (.inl (some (.int r))) M := by
  unfold F_X4_burnt at h
  refine Con.of (by decide) rfl (Nat.le_of_ble_eq_true rfl) (fun κ => ?_)
  show J κ E mi_X4_burnt _ 0 0 [(0, .ref 53)] M 0 []
  refine J_iconst (v := (0 : Int32)) (pc := 0) dX4_burnt_0 (by decide) ?_
  refine J_istore_n (pc := 1) dX4_burnt_1 rfl (Nat.le_of_ble_eq_true rfl) [1, 0] rfl ?_
  refine J_iconst (v := (0 : Int32)) (pc := 2) dX4_burnt_2 (by decide) ?_
  refine J_istore_n (pc := 3) dX4_burnt_3 rfl (Nat.le_of_ble_eq_true rfl) [1, 2, 0] rfl ?_
  refine J_LS [(0, .ref 53), (1, .int (0 : Int32)), (2, .int (0 : Int32))] [] rfl rfl ?_
  refine kL_X4_burnt_L4 _ _ (fun v12 h => ?_) fuelN _ _ h
  refine J_iload_n (pc := 38) dX4_burnt_38 rfl 0 rfl ?_
  cases h
  exact J_ireturn dX4_burnt_39 rfl rfl rfl rfl rfl
set_option maxHeartbeats 4000000 in
set_option maxRecDepth 100000 in
theorem k_X4_fuel {E : En} (M : Wd) {r : Int32} {M' : Wd} (h : F_X4_fuel M = some (r, M')) : Con E mi_X4_fuel [.ref 53] M (.inl (some (.int r))) M' := by
  unfold F_X4_fuel at h
  refine Con.of (by decide) rfl (Nat.le_of_ble_eq_true rfl) (fun κ => ?_)
  show J κ E mi_X4_fuel _ 0 0 [(0, .ref 53)] M 0 []
  refine J_aload_n (pc := 0) dX4_fuel_0 rfl 0 rfl ?_
  refine J_aload_n (pc := 1) dX4_fuel_1 rfl 0 rfl ?_
  obtain ⟨v1, hc2, h⟩ := obind_e h
  refine J_callV (g := mi_X4_burnt) (ci := 4) (pc := 2) [] [.ref 53] mv_X4_burnt w_1437 (k_X4_burnt _ hc2) rfl (by decide) rfl rfl rfl ⟨⟨Nat.le_of_ble_eq_true rfl, Nat.le_of_ble_eq_true rfl⟩, Nat.le_of_ble_eq_true rfl, Nat.le_of_ble_eq_true rfl⟩ (Nat.le_of_ble_eq_true rfl) dX4_fuel_2 (Jk_v rfl rfl fun hok3 => ?_)
  obtain ⟨v4, M5, hc6, h⟩ := obind2_e h
  refine J_callV (g := mi_X4_told) (ci := 4) (pc := 5) [.int v1] [] mv_X4_told w_1349 (k_X4_told v1 _ hc6) rfl (by decide) rfl rfl rfl ⟨⟨Nat.le_of_ble_eq_true rfl, Nat.le_of_ble_eq_true rfl⟩, Nat.le_of_ble_eq_true rfl, Nat.le_of_ble_eq_true rfl⟩ (Nat.le_of_ble_eq_true rfl) dX4_fuel_5 (Jk_v rfl rfl fun hok7 => ?_)
  cases h
  exact J_ireturn dX4_fuel_8 rfl rfl rfl rfl rfl
set_option maxHeartbeats 4000000 in
set_option maxRecDepth 100000 in
theorem k_X4_fuelByCars {E : En} (M : Wd) {r : Int32} {M' : Wd} (h : F_X4_fuelByCars M = some (r, M')) : Con E mi_X4_fuelByCars [.ref 53] M (.inl (some (.int r))) M' := by
  unfold F_X4_fuelByCars at h
  refine Con.of (by decide) rfl (Nat.le_of_ble_eq_true rfl) (fun κ => ?_)
  show J κ E mi_X4_fuelByCars _ 0 0 [(0, .ref 53)] M 0 []
  refine J_aload_n (pc := 0) dX4_fuelByCars_0 rfl 0 rfl ?_
  refine J_aload_n (pc := 1) dX4_fuelByCars_1 rfl 0 rfl ?_
  obtain ⟨v1, hc2, h⟩ := obind_e h
  refine J_callV (g := mi_X4_burnt) (ci := 4) (pc := 2) [] [.ref 53] mv_X4_burnt w_1437 (k_X4_burnt _ hc2) rfl (by decide) rfl rfl rfl ⟨⟨Nat.le_of_ble_eq_true rfl, Nat.le_of_ble_eq_true rfl⟩, Nat.le_of_ble_eq_true rfl, Nat.le_of_ble_eq_true rfl⟩ (Nat.le_of_ble_eq_true rfl) dX4_fuelByCars_2 (Jk_v rfl rfl fun hok3 => ?_)
  obtain ⟨v4, M5, hc6, h⟩ := obind2_e h
  refine J_callV (g := mi_X4_told) (ci := 4) (pc := 5) [.int v1] [] mv_X4_told w_1349 (k_X4_told v1 _ hc6) rfl (by decide) rfl rfl rfl ⟨⟨Nat.le_of_ble_eq_true rfl, Nat.le_of_ble_eq_true rfl⟩, Nat.le_of_ble_eq_true rfl, Nat.le_of_ble_eq_true rfl⟩ (Nat.le_of_ble_eq_true rfl) dX4_fuelByCars_5 (Jk_v rfl rfl fun hok7 => ?_)
  cases h
  exact J_ireturn dX4_fuelByCars_8 rfl rfl rfl rfl rfl

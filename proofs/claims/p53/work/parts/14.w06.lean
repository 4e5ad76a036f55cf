/-! ===== walks of the methods, 6 ===== -/
set_option maxHeartbeats 4000000 in
set_option maxRecDepth 100000 in
theorem k_X3_exploreNow {E : En} (M : Wd) {M' : Wd} (h : F_X3_exploreNow M = some M') : Con E mi_X3_exploreNow [.ref 0] M (.inl none) M' := by
  unfold F_X3_exploreNow at h
  refine Con.of (by decide) rfl (Nat.le_of_ble_eq_true rfl) (fun κ => ?_)
  show J κ E mi_X3_exploreNow _ 0 0 [(0, .ref 0)] M 0 []
  refine J_aload_n (pc := 0) dX3_exploreNow_0 rfl 0 rfl ?_
  refine get_0_3 (pc := 1) w_157 dX3_exploreNow_1 ?_
  refine J_aload_n (pc := 4) dX3_exploreNow_4 rfl 0 rfl ?_
  refine get_0_0 (pc := 5) w_154 dX3_exploreNow_5 ?_
  refine J_aload_n (pc := 8) dX3_exploreNow_8 rfl 0 rfl ?_
  refine get_0_0 (pc := 9) w_154 dX3_exploreNow_9 ?_
  refine get_1_5 (pc := 12) w_61 dX3_exploreNow_12 ?_
  refine J_aload_n (pc := 15) dX3_exploreNow_15 rfl 0 rfl ?_
  refine get_0_0 (pc := 16) w_154 dX3_exploreNow_16 ?_
  refine get_1_6 (pc := 19) w_63 dX3_exploreNow_19 ?_
  obtain ⟨M1, hc2, h⟩ := obind_e h
  refine J_callV (g := mi_X0_load) (ci := 0) (pc := 22) [.ref 1, .int (M.1 1 5), .int (M.1 1 6)] [] mv_X0_load w_254 (k_X0_load (M.1 1 5) (M.1 1 6) _ hc2) rfl (by decide) rfl rfl rfl ⟨⟨Nat.le_of_ble_eq_true rfl, Nat.le_of_ble_eq_true rfl⟩, Nat.le_of_ble_eq_true rfl, Nat.le_of_ble_eq_true rfl⟩ (Nat.le_of_ble_eq_true rfl) dX3_exploreNow_22 (Jk_0 rfl rfl ?_)
  cases h
  exact J_return dX3_exploreNow_25 rfl rfl rfl rfl rfl
set_option maxHeartbeats 4000000 in
set_option maxRecDepth 100000 in
theorem k_X3_slidesToDriveOut {E : En} (M : Wd) {r : Int32} {M' : Wd} (h : F_X3_slidesToDriveOut M = some (r, M')) : Con E mi_X3_slidesToDriveOut [.ref 0] M (.inl (some (.int r))) M' := by
  unfold F_X3_slidesToDriveOut at h
  refine Con.of (by decide) rfl (Nat.le_of_ble_eq_true rfl) (fun κ => ?_)
  show J κ E mi_X3_slidesToDriveOut _ 0 0 [(0, .ref 0)] M 0 []
  refine J_aload_n (pc := 0) dX3_slidesToDriveOut_0 rfl 0 rfl ?_
  obtain ⟨M1, hc2, h⟩ := obind_e h
  refine J_callV (g := mi_X3_exploreNow) (ci := 3) (pc := 1) [] [] mv_X3_exploreNow w_250 (k_X3_exploreNow _ hc2) rfl (by decide) rfl rfl rfl ⟨⟨Nat.le_of_ble_eq_true rfl, Nat.le_of_ble_eq_true rfl⟩, Nat.le_of_ble_eq_true rfl, Nat.le_of_ble_eq_true rfl⟩ (Nat.le_of_ble_eq_true rfl) dX3_slidesToDriveOut_1 (Jk_0 rfl rfl ?_)
  refine J_aload_n (pc := 4) dX3_slidesToDriveOut_4 rfl 0 rfl ?_
  refine get_0_3 (pc := 5) w_157 dX3_slidesToDriveOut_5 ?_
  obtain ⟨v3, M4, hc5, h⟩ := obind2_e h
  refine J_callV (g := mi_X0_slidesFromEnds) (ci := 0) (pc := 8) [] [] mv_X0_slidesFromEnds w_320 (k_X0_slidesFromEnds  _ hc5) rfl (by decide) rfl rfl rfl ⟨⟨Nat.le_of_ble_eq_true rfl, Nat.le_of_ble_eq_true rfl⟩, Nat.le_of_ble_eq_true rfl, Nat.le_of_ble_eq_true rfl⟩ (Nat.le_of_ble_eq_true rfl) dX3_slidesToDriveOut_8 (Jk_v rfl rfl fun hok6 => ?_)
  refine J_istore_n (pc := 11) dX3_slidesToDriveOut_11 rfl (Nat.le_of_ble_eq_true rfl) [1, 0] rfl ?_
  refine J_aload_n (pc := 12) dX3_slidesToDriveOut_12 rfl 0 rfl ?_
  refine get_0_0 (pc := 13) w_154 dX3_slidesToDriveOut_13 ?_
  refine get_1_7 (pc := 16) w_65 dX3_slidesToDriveOut_16 ?_
  refine J_iload_n (pc := 19) dX3_slidesToDriveOut_19 rfl 1 rfl ?_
  refine J_iadd (pc := 20) dX3_slidesToDriveOut_20 ?_
  refine J_bipush (v := (60 : Int32)) (pc := 21) dX3_slidesToDriveOut_21 (by decide) ?_
  refine J_icmp_le (pc := 23) (tgt := 30) dX3_slidesToDriveOut_23 (by decide) (fun c7 => ?_) (fun c7 => ?_)
  · replace h := ifp c7 h
    refine J_iload_n (pc := 30) dX3_slidesToDriveOut_30 rfl 1 rfl ?_
    cases h
    exact J_ireturn dX3_slidesToDriveOut_31 rfl rfl rfl rfl rfl
  · replace h := ifn c7 h
    refine J_iconst (v := (-1 : Int32)) (pc := 26) dX3_slidesToDriveOut_26 (by decide) ?_
    refine J_goto (pc := 27) (tgt := 31) dX3_slidesToDriveOut_27 (by decide) ?_
    cases h
    exact J_ireturn dX3_slidesToDriveOut_31 rfl rfl rfl rfl rfl
set_option maxHeartbeats 4000000 in
set_option maxRecDepth 100000 in
theorem k_X3_driveOut {E : En} (M : Wd) {r : Int32 ⊕ Nat} {M' : Wd} (h : F_X3_driveOut M = some (r, M')) : Con E mi_X3_driveOut [.ref 0] M (ocI r) M' := by
  unfold F_X3_driveOut at h
  refine Con.of (by decide) rfl (Nat.le_of_ble_eq_true rfl) (fun κ => ?_)
  show J κ E mi_X3_driveOut _ 0 0 [(0, .ref 0)] M 0 []
  refine J_aload_n (pc := 0) dX3_driveOut_0 rfl 0 rfl ?_
  obtain ⟨v1, M2, hc3, h⟩ := obind2_e h
  refine J_callV (g := mi_X3_slidesToDriveOut) (ci := 3) (pc := 1) [] [] mv_X3_slidesToDriveOut w_628 (k_X3_slidesToDriveOut  _ hc3) rfl (by decide) rfl rfl rfl ⟨⟨Nat.le_of_ble_eq_true rfl, Nat.le_of_ble_eq_true rfl⟩, Nat.le_of_ble_eq_true rfl, Nat.le_of_ble_eq_true rfl⟩ (Nat.le_of_ble_eq_true rfl) dX3_driveOut_1 (Jk_v rfl rfl fun hok4 => ?_)
  refine J_istore_n (pc := 4) dX3_driveOut_4 rfl (Nat.le_of_ble_eq_true rfl) [1, 0] rfl ?_
  refine J_iload_n (pc := 5) dX3_driveOut_5 rfl 1 rfl ?_
  refine J_if_ge (pc := 6) (tgt := 19) dX3_driveOut_6 (by decide) (fun c5 => ?_) (fun c5 => ?_)
  · replace h := ifp c5 h
    refine J_aload_n (pc := 19) dX3_driveOut_19 rfl 0 rfl ?_
    obtain ⟨M6, hc7, h⟩ := obind_e h
    refine J_callV (g := mi_X3_save) (ci := 3) (pc := 20) [] [] mv_X3_save w_551 (k_X3_save _ hc7) rfl (by decide) rfl rfl rfl ⟨⟨Nat.le_of_ble_eq_true rfl, Nat.le_of_ble_eq_true rfl⟩, Nat.le_of_ble_eq_true rfl, Nat.le_of_ble_eq_true rfl⟩ (Nat.le_of_ble_eq_true rfl) dX3_driveOut_20 (Jk_0 rfl rfl ?_)
    refine J_aload_n (pc := 23) dX3_driveOut_23 rfl 0 rfl ?_
    refine J_iload_n (pc := 24) dX3_driveOut_24 rfl 1 rfl ?_
    obtain ⟨v8, M9, hc10, h⟩ := obind2_e h
    refine J_callV (g := mi_X3_makePlan) (ci := 3) (pc := 25) [.int v1] [] mv_X3_makePlan w_633 (k_X3_makePlan  v1 _ hc10) rfl (by decide) rfl rfl rfl ⟨⟨Nat.le_of_ble_eq_true rfl, Nat.le_of_ble_eq_true rfl⟩, Nat.le_of_ble_eq_true rfl, Nat.le_of_ble_eq_true rfl⟩ (Nat.le_of_ble_eq_true rfl) dX3_driveOut_25 (Jk_v rfl rfl fun hok11 => ?_)
    refine J_pop (pc := 28) dX3_driveOut_28 rfl ?_
    refine J_iload_n (pc := 29) dX3_driveOut_29 rfl 1 rfl ?_
    cases h
    refine J_wide (k' := 1) (n' := 6) (Nat.le_of_ble_eq_true rfl) (Nat.le_of_ble_eq_true rfl) ?_
    exact J_ireturn dX3_driveOut_30 rfl rfl rfl rfl rfl
  · replace h := ifn c5 h
    cases h
    exact J_throwS (pc := 9) (text := "there is no plan that the log has room for") rfl rfl rfl (by decide +kernel) w_535 w_29 (by decide) ats_RX3_66 dX3_driveOut_9 dX3_driveOut_12 dX3_driveOut_13 dX3_driveOut_15 dX3_driveOut_18 ⟨⟨Nat.le_of_ble_eq_true rfl, Nat.le_of_ble_eq_true rfl⟩, Nat.le_of_ble_eq_true rfl, Nat.le_of_ble_eq_true rfl⟩
set_option maxHeartbeats 4000000 in
set_option maxRecDepth 100000 in
theorem k_X3_append {E : En} (a1 : Int32) (M : Wd) {r : Int32 ⊕ Nat} {M' : Wd} (h : F_X3_append a1 M = some (r, M')) : Con E mi_X3_append [.ref 0, .int a1] M (ocI r) M' := by
  unfold F_X3_append at h
  refine Con.of (by decide) rfl (Nat.le_of_ble_eq_true rfl) (fun κ => ?_)
  show J κ E mi_X3_append _ 0 0 [(0, .ref 0), (1, .int a1)] M 0 []
  refine J_iload_n (pc := 0) dX3_append_0 rfl 1 rfl ?_
  refine J_bipush (v := (33 : Int32)) (pc := 1) dX3_append_1 (by decide) ?_
  refine J_icmp_lt (pc := 3) (tgt := 12) dX3_append_3 (by decide) (fun c1 => ?_) (fun c1 => ?_)
  · replace h := ifp c1 h
    cases h
    exact J_throwS (pc := 12) (text := "no such character code") rfl rfl rfl (by decide +kernel) w_519 w_28 (by decide) ats_RX3_110 dX3_append_12 dX3_append_15 dX3_append_16 dX3_append_18 dX3_append_21 ⟨⟨Nat.le_of_ble_eq_true rfl, Nat.le_of_ble_eq_true rfl⟩, Nat.le_of_ble_eq_true rfl, Nat.le_of_ble_eq_true rfl⟩
  · replace h := ifn c1 h
    refine J_iload_n (pc := 6) dX3_append_6 rfl 1 rfl ?_
    refine J_bipush (v := (126 : Int32)) (pc := 7) dX3_append_7 (by decide) ?_
    refine J_icmp_le (pc := 9) (tgt := 22) dX3_append_9 (by decide) (fun c2 => ?_) (fun c2 => ?_)
    · replace h := ifp c2 h
      refine J_aload_n (pc := 22) dX3_append_22 rfl 0 rfl ?_
      refine get_0_4 (pc := 23) w_158 dX3_append_23 ?_
      refine get_51_1 (pc := 26) w_148 dX3_append_26 ?_
      refine J_bipush (v := (60 : Int32)) (pc := 29) dX3_append_29 (by decide) ?_
      refine J_icmp_lt (pc := 31) (tgt := 44) dX3_append_31 (by decide) (fun c3 => ?_) (fun c3 => ?_)
      · replace h := ifp c3 h
        refine J_aload_n (pc := 44) dX3_append_44 rfl 0 rfl ?_
        refine get_0_4 (pc := 45) w_158 dX3_append_45 ?_
        refine J_iload_n (pc := 48) dX3_append_48 rfl 1 rfl ?_
        obtain ⟨v4, M5, hc6, h⟩ := obind2_e h
        refine J_callV (g := mi_X2_add) (ci := 2) (pc := 49) [.int a1] [] mv_X2_add w_656 (k_X2_add  a1 _ hc6) rfl (by decide) rfl rfl rfl ⟨⟨Nat.le_of_ble_eq_true rfl, Nat.le_of_ble_eq_true rfl⟩, Nat.le_of_ble_eq_true rfl, Nat.le_of_ble_eq_true rfl⟩ (Nat.le_of_ble_eq_true rfl) dX3_append_49 (Jk_v rfl rfl fun hok7 => ?_)
        cases h
        refine J_wide (k' := 1) (n' := 6) (Nat.le_of_ble_eq_true rfl) (Nat.le_of_ble_eq_true rfl) ?_
        exact J_ireturn dX3_append_52 rfl rfl rfl rfl rfl
      · replace h := ifn c3 h
        cases h
        exact J_throwS (pc := 34) (text := "the buffer is full") rfl rfl rfl (by decide +kernel) w_535 w_29 (by decide) ats_RX3_66 dX3_append_34 dX3_append_37 dX3_append_38 dX3_append_40 dX3_append_43 ⟨⟨Nat.le_of_ble_eq_true rfl, Nat.le_of_ble_eq_true rfl⟩, Nat.le_of_ble_eq_true rfl, Nat.le_of_ble_eq_true rfl⟩
    · replace h := ifn c2 h
      cases h
      exact J_throwS (pc := 12) (text := "no such character code") rfl rfl rfl (by decide +kernel) w_519 w_28 (by decide) ats_RX3_110 dX3_append_12 dX3_append_15 dX3_append_16 dX3_append_18 dX3_append_21 ⟨⟨Nat.le_of_ble_eq_true rfl, Nat.le_of_ble_eq_true rfl⟩, Nat.le_of_ble_eq_true rfl, Nat.le_of_ble_eq_true rfl⟩
set_option maxHeartbeats 4000000 in
set_option maxRecDepth 100000 in
theorem k_X3_tryEntering {E : En} (a1 : Int32) (a2 : Int32) (a3 : Int32) (M : Wd) {r : Int32} {M' : Wd} (h : F_X3_tryEntering a1 a2 a3 M = some (r, M')) : Con E mi_X3_tryEntering [.ref 0, .int a1, .int a2, .int a3] M (.inl (some (.int r))) M' := by
  unfold F_X3_tryEntering at h
  refine Con.of (by decide) rfl (Nat.le_of_ble_eq_true rfl) (fun κ => ?_)
  show J κ E mi_X3_tryEntering _ 0 0 [(0, .ref 0), (1, .int a1), (2, .int a2), (3, .int a3)] M 0 []
  refine J_aload_n (pc := 0) dX3_tryEntering_0 rfl 0 rfl ?_
  refine get_0_0 (pc := 1) w_154 dX3_tryEntering_1 ?_
  refine J_iload_n (pc := 4) dX3_tryEntering_4 rfl 1 rfl ?_
  refine J_iload_n (pc := 5) dX3_tryEntering_5 rfl 2 rfl ?_
  refine J_iload_n (pc := 6) dX3_tryEntering_6 rfl 3 rfl ?_
  obtain ⟨v1, hc2, h⟩ := obind_e h
  refine J_callV (g := mi_X1_troubleOfEntering) (ci := 1) (pc := 7) [.int a1, .int a2, .int a3] [] mv_X1_troubleOfEntering w_444 (k_X1_troubleOfEntering  a1 a2 a3 _ hc2) rfl (by decide) rfl rfl rfl ⟨⟨Nat.le_of_ble_eq_true rfl, Nat.le_of_ble_eq_true rfl⟩, Nat.le_of_ble_eq_true rfl, Nat.le_of_ble_eq_true rfl⟩ (Nat.le_of_ble_eq_true rfl) dX3_tryEntering_7 (Jk_v rfl rfl fun hok3 => ?_)
  obtain ⟨v4, e5, h⟩ := bnd_e h
  have hb7 : isB v4 := by rw [e5]; repeat (first | exact Or.inl rfl | exact Or.inr rfl | assumption | exact okB_b (by assumption) | apply isB_ite)
  refine J_join [(0, .ref 0), (1, .int a1), (2, .int a2), (3, .int a3)] M 18 [.int v4] ?_ (fun hJ => ?_)
  · refine J_istore (pc := 18) dX3_tryEntering_18 (Nat.le_of_ble_eq_true rfl) [1, 2, 3, 4, 0] rfl ?_
    refine J_iload (pc := 20) dX3_tryEntering_20 4 rfl ?_
    obtain ⟨M8, hv14, h⟩ := obind_e h
    refine J_join [(4, .int v4)] M8 36 [] ?_ (fun hJ => ?_)
    · refine J_iload (pc := 36) dX3_tryEntering_36 0 rfl ?_
      cases h
      exact J_zreturn dX3_tryEntering_38 rfl hb7 rfl rfl rfl rfl
    · replace h := hv14
      refine J_if_eq (pc := 22) (tgt := 36) dX3_tryEntering_22 (by decide) (fun c9 => ?_) (fun c9 => ?_)
      · replace h := ifp c9 h
        cases h
        refine J_sub [4] rfl ?_
        exact hJ
      · replace h := ifn c9 h
        refine J_aload_n (pc := 25) dX3_tryEntering_25 rfl 0 rfl ?_
        refine get_0_0 (pc := 26) w_154 dX3_tryEntering_26 ?_
        refine J_iload_n (pc := 29) dX3_tryEntering_29 rfl 1 rfl ?_
        refine J_iload_n (pc := 30) dX3_tryEntering_30 rfl 2 rfl ?_
        refine J_iload_n (pc := 31) dX3_tryEntering_31 rfl 3 rfl ?_
        obtain ⟨v10, M11, hc12, h⟩ := obind2_e h
        refine J_callV (g := mi_X1_enter) (ci := 1) (pc := 32) [.int a1, .int a2, .int a3] [] mv_X1_enter w_569 (k_X1_enter  a1 a2 a3 _ hc12) rfl (by decide) rfl rfl rfl ⟨⟨Nat.le_of_ble_eq_true rfl, Nat.le_of_ble_eq_true rfl⟩, Nat.le_of_ble_eq_true rfl, Nat.le_of_ble_eq_true rfl⟩ (Nat.le_of_ble_eq_true rfl) dX3_tryEntering_32 (Jk_v rfl rfl fun hok13 => ?_)
        refine J_pop (pc := 35) dX3_tryEntering_35 rfl ?_
        cases h
        refine J_sub [4] rfl ?_
        exact hJ
  · refine J_if_ne (pc := 10) (tgt := 17) dX3_tryEntering_10 (by decide) (fun c6 => ?_) (fun c6 => ?_)
    · refine J_iconst (v := (0 : Int32)) (pc := 17) dX3_tryEntering_17 (by decide) ?_
      refine J_topi (y := v4) (by rw [e5, if_neg c6]) ?_
      exact hJ
    · refine J_iconst (v := (1 : Int32)) (pc := 13) dX3_tryEntering_13 (by decide) ?_
      refine J_goto (pc := 14) (tgt := 18) dX3_tryEntering_14 (by decide) ?_
      refine J_topi (y := v4) (by rw [e5, if_pos c6]) ?_
      exact hJ
set_option maxHeartbeats 4000000 in
set_option maxRecDepth 100000 in
theorem k_X3_trySliding {E : En} (a1 : Int32) (a2 : Int32) (M : Wd) {r : Int32} {M' : Wd} (h : F_X3_trySliding a1 a2 M = some (r, M')) : Con E mi_X3_trySliding [.ref 0, .int a1, .int a2] M (.inl (some (.int r))) M' := by
  unfold F_X3_trySliding at h
  refine Con.of (by decide) rfl (Nat.le_of_ble_eq_true rfl) (fun κ => ?_)
  show J κ E mi_X3_trySliding _ 0 0 [(0, .ref 0), (1, .int a1), (2, .int a2)] M 0 []
  refine J_aload_n (pc := 0) dX3_trySliding_0 rfl 0 rfl ?_
  refine get_0_0 (pc := 1) w_154 dX3_trySliding_1 ?_
  refine J_iload_n (pc := 4) dX3_trySliding_4 rfl 1 rfl ?_
  refine J_iload_n (pc := 5) dX3_trySliding_5 rfl 2 rfl ?_
  obtain ⟨v1, hc2, h⟩ := obind_e h
  refine J_callV (g := mi_X1_troubleOfSliding) (ci := 1) (pc := 6) [.int a1, .int a2] [] mv_X1_troubleOfSliding w_595 (k_X1_troubleOfSliding  a1 a2 _ hc2) rfl (by decide) rfl rfl rfl ⟨⟨Nat.le_of_ble_eq_true rfl, Nat.le_of_ble_eq_true rfl⟩, Nat.le_of_ble_eq_true rfl, Nat.le_of_ble_eq_true rfl⟩ (Nat.le_of_ble_eq_true rfl) dX3_trySliding_6 (Jk_v rfl rfl fun hok3 => ?_)
  obtain ⟨v4, e5, h⟩ := bnd_e h
  have hb8 : isB v4 := by rw [e5]; repeat (first | exact Or.inl rfl | exact Or.inr rfl | assumption | exact okB_b (by assumption) | apply isB_ite)
  refine J_join [(0, .ref 0), (1, .int a1), (2, .int a2)] M 29 [.int v4] ?_ (fun hJ => ?_)
  · refine J_istore_n (pc := 29) dX3_trySliding_29 rfl (Nat.le_of_ble_eq_true rfl) [1, 2, 3, 0] rfl ?_
    refine J_iload_n (pc := 30) dX3_trySliding_30 rfl 3 rfl ?_
    obtain ⟨M9, hv15, h⟩ := obind_e h
    refine J_join [(3, .int v4)] M9 44 [] ?_ (fun hJ => ?_)
    · refine J_iload_n (pc := 44) dX3_trySliding_44 rfl 0 rfl ?_
      cases h
      exact J_zreturn dX3_trySliding_45 rfl hb8 rfl rfl rfl rfl
    · replace h := hv15
      refine J_if_eq (pc := 31) (tgt := 44) dX3_trySliding_31 (by decide) (fun c10 => ?_) (fun c10 => ?_)
      · replace h := ifp c10 h
        cases h
        refine J_sub [3] rfl ?_
        exact hJ
      · replace h := ifn c10 h
        refine J_aload_n (pc := 34) dX3_trySliding_34 rfl 0 rfl ?_
        refine get_0_0 (pc := 35) w_154 dX3_trySliding_35 ?_
        refine J_iload_n (pc := 38) dX3_trySliding_38 rfl 1 rfl ?_
        refine J_iload_n (pc := 39) dX3_trySliding_39 rfl 2 rfl ?_
        obtain ⟨v11, M12, hc13, h⟩ := obind2_e h
        refine J_callV (g := mi_X1_makeSlide) (ci := 1) (pc := 40) [.int a1, .int a2] [] mv_X1_makeSlide w_601 (k_X1_makeSlide  a1 a2 _ hc13) rfl (by decide) rfl rfl rfl ⟨⟨Nat.le_of_ble_eq_true rfl, Nat.le_of_ble_eq_true rfl⟩, Nat.le_of_ble_eq_true rfl, Nat.le_of_ble_eq_true rfl⟩ (Nat.le_of_ble_eq_true rfl) dX3_trySliding_40 (Jk_v rfl rfl fun hok14 => ?_)
        refine J_pop (pc := 43) dX3_trySliding_43 rfl ?_
        cases h
        refine J_sub [3] rfl ?_
        exact hJ
  · refine J_if_ne (pc := 9) (tgt := 28) dX3_trySliding_9 (by decide) (fun c6 => ?_) (fun c6 => ?_)
    · refine J_iconst (v := (0 : Int32)) (pc := 28) dX3_trySliding_28 (by decide) ?_
      refine J_topi (y := v4) (by rw [e5, if_neg c6]) ?_
      exact hJ
    · refine J_aload_n (pc := 12) dX3_trySliding_12 rfl 0 rfl ?_
      refine get_0_0 (pc := 13) w_154 dX3_trySliding_13 ?_
      refine get_1_7 (pc := 16) w_65 dX3_trySliding_16 ?_
      refine J_bipush (v := (60 : Int32)) (pc := 19) dX3_trySliding_19 (by decide) ?_
      refine J_icmp_ge (pc := 21) (tgt := 28) dX3_trySliding_21 (by decide) (fun c7 => ?_) (fun c7 => ?_)
      · refine J_iconst (v := (0 : Int32)) (pc := 28) dX3_trySliding_28 (by decide) ?_
        refine J_topi (y := v4) (by rw [e5, if_pos c6, if_pos c7]) ?_
        exact hJ
      · refine J_iconst (v := (1 : Int32)) (pc := 24) dX3_trySliding_24 (by decide) ?_
        refine J_goto (pc := 25) (tgt := 29) dX3_trySliding_25 (by decide) ?_
        refine J_topi (y := v4) (by rw [e5, if_pos c6, if_neg c7]) ?_
        exact hJ
set_option maxHeartbeats 4000000 in
set_option maxRecDepth 100000 in
theorem k_X3_tryTakingBack {E : En} (M : Wd) {r : Int32} {M' : Wd} (h : F_X3_tryTakingBack M = some (r, M')) : Con E mi_X3_tryTakingBack [.ref 0] M (.inl (some (.int r))) M' := by
  unfold F_X3_tryTakingBack at h
  refine Con.of (by decide) rfl (Nat.le_of_ble_eq_true rfl) (fun κ => ?_)
  show J κ E mi_X3_tryTakingBack _ 0 0 [(0, .ref 0)] M 0 []
  refine J_aload_n (pc := 0) dX3_tryTakingBack_0 rfl 0 rfl ?_
  refine get_0_0 (pc := 1) w_154 dX3_tryTakingBack_1 ?_
  refine get_1_7 (pc := 4) w_65 dX3_tryTakingBack_4 ?_
  obtain ⟨v1, e2, h⟩ := bnd_e h
  have hb4 : isB v1 := by rw [e2]; repeat (first | exact Or.inl rfl | exact Or.inr rfl | assumption | exact okB_b (by assumption) | apply isB_ite)
  refine J_join [(0, .ref 0)] M 15 [.int v1] ?_ (fun hJ => ?_)
  · refine J_istore_n (pc := 15) dX3_tryTakingBack_15 rfl (Nat.le_of_ble_eq_true rfl) [1, 0] rfl ?_
    refine J_iload_n (pc := 16) dX3_tryTakingBack_16 rfl 1 rfl ?_
    obtain ⟨M5, hv11, h⟩ := obind_e h
    refine J_join [(1, .int v1)] M5 28 [] ?_ (fun hJ => ?_)
    · refine J_iload_n (pc := 28) dX3_tryTakingBack_28 rfl 0 rfl ?_
      cases h
      exact J_zreturn dX3_tryTakingBack_29 rfl hb4 rfl rfl rfl rfl
    · replace h := hv11
      refine J_if_eq (pc := 17) (tgt := 28) dX3_tryTakingBack_17 (by decide) (fun c6 => ?_) (fun c6 => ?_)
      · replace h := ifp c6 h
        cases h
        refine J_sub [1] rfl ?_
        exact hJ
      · replace h := ifn c6 h
        refine J_aload_n (pc := 20) dX3_tryTakingBack_20 rfl 0 rfl ?_
        refine get_0_0 (pc := 21) w_154 dX3_tryTakingBack_21 ?_
        obtain ⟨v7, M8, hc9, h⟩ := obind2_e h
        refine J_callV (g := mi_X1_unmakeSlide) (ci := 1) (pc := 24) [] [] mv_X1_unmakeSlide w_613 (k_X1_unmakeSlide  _ hc9) rfl (by decide) rfl rfl rfl ⟨⟨Nat.le_of_ble_eq_true rfl, Nat.le_of_ble_eq_true rfl⟩, Nat.le_of_ble_eq_true rfl, Nat.le_of_ble_eq_true rfl⟩ (Nat.le_of_ble_eq_true rfl) dX3_tryTakingBack_24 (Jk_v rfl rfl fun hok10 => ?_)
        refine J_pop (pc := 27) dX3_tryTakingBack_27 rfl ?_
        cases h
        refine J_sub [1] rfl ?_
        exact hJ
  · refine J_if_le (pc := 7) (tgt := 14) dX3_tryTakingBack_7 (by decide) (fun c3 => ?_) (fun c3 => ?_)
    · refine J_iconst (v := (0 : Int32)) (pc := 14) dX3_tryTakingBack_14 (by decide) ?_
      refine J_topi (y := v1) (by rw [e2, if_pos c3]) ?_
      exact hJ
    · refine J_iconst (v := (1 : Int32)) (pc := 10) dX3_tryTakingBack_10 (by decide) ?_
      refine J_goto (pc := 11) (tgt := 15) dX3_tryTakingBack_11 (by decide) ?_
      refine J_topi (y := v1) (by rw [e2, if_neg c3]) ?_
      exact hJ
set_option maxHeartbeats 4000000 in
set_option maxRecDepth 100000 in
theorem k_X3_tryWall {E : En} (a1 : Int32) (M : Wd) {r : Int32} {M' : Wd} (h : F_X3_tryWall a1 M = some (r, M')) : Con E mi_X3_tryWall [.ref 0, .int a1] M (.inl (some (.int r))) M' := by
  unfold F_X3_tryWall at h
  refine Con.of (by decide) rfl (Nat.le_of_ble_eq_true rfl) (fun κ => ?_)
  show J κ E mi_X3_tryWall _ 0 0 [(0, .ref 0), (1, .int a1)] M 0 []
  refine J_aload_n (pc := 0) dX3_tryWall_0 rfl 0 rfl ?_
  refine get_0_0 (pc := 1) w_154 dX3_tryWall_1 ?_
  refine J_iload_n (pc := 4) dX3_tryWall_4 rfl 1 rfl ?_
  obtain ⟨v1, hc2, h⟩ := obind_e h
  refine J_callV (g := mi_X1_troubleOfWall) (ci := 1) (pc := 5) [.int a1] [] mv_X1_troubleOfWall w_709 (k_X1_troubleOfWall  a1 _ hc2) rfl (by decide) rfl rfl rfl ⟨⟨Nat.le_of_ble_eq_true rfl, Nat.le_of_ble_eq_true rfl⟩, Nat.le_of_ble_eq_true rfl, Nat.le_of_ble_eq_true rfl⟩ (Nat.le_of_ble_eq_true rfl) dX3_tryWall_5 (Jk_v rfl rfl fun hok3 => ?_)
  obtain ⟨v4, e5, h⟩ := bnd_e h
  have hb7 : isB v4 := by rw [e5]; repeat (first | exact Or.inl rfl | exact Or.inr rfl | assumption | exact okB_b (by assumption) | apply isB_ite)
  refine J_join [(0, .ref 0), (1, .int a1)] M 16 [.int v4] ?_ (fun hJ => ?_)
  · refine J_istore_n (pc := 16) dX3_tryWall_16 rfl (Nat.le_of_ble_eq_true rfl) [1, 2, 0] rfl ?_
    refine J_iload_n (pc := 17) dX3_tryWall_17 rfl 2 rfl ?_
    obtain ⟨M8, hv14, h⟩ := obind_e h
    refine J_join [(2, .int v4)] M8 30 [] ?_ (fun hJ => ?_)
    · refine J_iload_n (pc := 30) dX3_tryWall_30 rfl 0 rfl ?_
      cases h
      exact J_zreturn dX3_tryWall_31 rfl hb7 rfl rfl rfl rfl
    · replace h := hv14
      refine J_if_eq (pc := 18) (tgt := 30) dX3_tryWall_18 (by decide) (fun c9 => ?_) (fun c9 => ?_)
      · replace h := ifp c9 h
        cases h
        refine J_sub [2] rfl ?_
        exact hJ
      · replace h := ifn c9 h
        refine J_aload_n (pc := 21) dX3_tryWall_21 rfl 0 rfl ?_
        refine get_0_0 (pc := 22) w_154 dX3_tryWall_22 ?_
        refine J_iload_n (pc := 25) dX3_tryWall_25 rfl 1 rfl ?_
        obtain ⟨v10, M11, hc12, h⟩ := obind2_e h
        refine J_callV (g := mi_X1_turnWall) (ci := 1) (pc := 26) [.int a1] [] mv_X1_turnWall w_719 (k_X1_turnWall  a1 _ hc12) rfl (by decide) rfl rfl rfl ⟨⟨Nat.le_of_ble_eq_true rfl, Nat.le_of_ble_eq_true rfl⟩, Nat.le_of_ble_eq_true rfl, Nat.le_of_ble_eq_true rfl⟩ (Nat.le_of_ble_eq_true rfl) dX3_tryWall_26 (Jk_v rfl rfl fun hok13 => ?_)
        refine J_pop (pc := 29) dX3_tryWall_29 rfl ?_
        cases h
        refine J_sub [2] rfl ?_
        exact hJ
  · refine J_if_ne (pc := 8) (tgt := 15) dX3_tryWall_8 (by decide) (fun c6 => ?_) (fun c6 => ?_)
    · refine J_iconst (v := (0 : Int32)) (pc := 15) dX3_tryWall_15 (by decide) ?_
      refine J_topi (y := v4) (by rw [e5, if_neg c6]) ?_
      exact hJ
    · refine J_iconst (v := (1 : Int32)) (pc := 11) dX3_tryWall_11 (by decide) ?_
      refine J_goto (pc := 12) (tgt := 16) dX3_tryWall_12 (by decide) ?_
      refine J_topi (y := v4) (by rw [e5, if_pos c6]) ?_
      exact hJ
set_option maxHeartbeats 4000000 in
set_option maxRecDepth 100000 in
theorem k_X3_tryPart {E : En} (a1 : Int32) (M : Wd) {r : Int32} {M' : Wd} (h : F_X3_tryPart a1 M = some (r, M')) : Con E mi_X3_tryPart [.ref 0, .int a1] M (.inl (some (.int r))) M' := by
  unfold F_X3_tryPart at h
  refine Con.of (by decide) rfl (Nat.le_of_ble_eq_true rfl) (fun κ => ?_)
  show J κ E mi_X3_tryPart _ 0 0 [(0, .ref 0), (1, .int a1)] M 0 []
  refine J_aload_n (pc := 0) dX3_tryPart_0 rfl 0 rfl ?_
  refine get_0_4 (pc := 1) w_158 dX3_tryPart_1 ?_
  refine J_iload_n (pc := 4) dX3_tryPart_4 rfl 1 rfl ?_
  obtain ⟨v1, hc2, h⟩ := obind_e h
  refine J_callV (g := mi_X2_codeAt) (ci := 2) (pc := 5) [.int a1] [] mv_X2_codeAt w_415 (k_X2_codeAt  a1 _ hc2) rfl (by decide) rfl rfl rfl ⟨⟨Nat.le_of_ble_eq_true rfl, Nat.le_of_ble_eq_true rfl⟩, Nat.le_of_ble_eq_true rfl, Nat.le_of_ble_eq_true rfl⟩ (Nat.le_of_ble_eq_true rfl) dX3_tryPart_5 (Jk_v rfl rfl fun hok3 => ?_)
  by_cases c62 : v1 = 98
  · replace h := ifp c62 h
    refine J_topi c62.symm ?_
    refine J_lookup (pc := 8) (tgt := 147) dX3_tryPart_8 (by decide) rfl (by decide) ?_
    refine J_aload_n (pc := 147) dX3_tryPart_147 rfl 0 rfl ?_
    obtain ⟨v4, M5, hc6, h⟩ := obind2_e h
    refine J_callV (g := mi_X3_tryTakingBack) (ci := 3) (pc := 148) [] [] mv_X3_tryTakingBack w_723 (k_X3_tryTakingBack  _ hc6) rfl (by decide) rfl rfl rfl ⟨⟨Nat.le_of_ble_eq_true rfl, Nat.le_of_ble_eq_true rfl⟩, Nat.le_of_ble_eq_true rfl, Nat.le_of_ble_eq_true rfl⟩ (Nat.le_of_ble_eq_true rfl) dX3_tryPart_148 (Jk_v rfl rfl fun hok7 => ?_)
    cases h
    exact J_zreturn dX3_tryPart_151 rfl (okB_b hok7) rfl rfl rfl rfl
  · replace h := ifn c62 h
    by_cases c63 : v1 = 100
    · replace h := ifp c63 h
      refine J_topi c63.symm ?_
      refine J_lookup (pc := 8) (tgt := 152) dX3_tryPart_8 (by decide) rfl (by decide) ?_
      refine J_aload_n (pc := 152) dX3_tryPart_152 rfl 0 rfl ?_
      refine J_aload_n (pc := 153) dX3_tryPart_153 rfl 0 rfl ?_
      obtain ⟨v8, M9, hc10, h⟩ := obind2_e h
      refine J_callV (g := mi_X3_slidesToDriveOut) (ci := 3) (pc := 154) [] [.ref 0] mv_X3_slidesToDriveOut w_628 (k_X3_slidesToDriveOut  _ hc10) rfl (by decide) rfl rfl rfl ⟨⟨Nat.le_of_ble_eq_true rfl, Nat.le_of_ble_eq_true rfl⟩, Nat.le_of_ble_eq_true rfl, Nat.le_of_ble_eq_true rfl⟩ (Nat.le_of_ble_eq_true rfl) dX3_tryPart_154 (Jk_v rfl rfl fun hok11 => ?_)
      obtain ⟨v12, M13, hc14, h⟩ := obind2_e h
      refine J_callV (g := mi_X3_makePlan) (ci := 3) (pc := 157) [.int v8] [] mv_X3_makePlan w_633 (k_X3_makePlan  v8 _ hc14) rfl (by decide) rfl rfl rfl ⟨⟨Nat.le_of_ble_eq_true rfl, Nat.le_of_ble_eq_true rfl⟩, Nat.le_of_ble_eq_true rfl, Nat.le_of_ble_eq_true rfl⟩ (Nat.le_of_ble_eq_true rfl) dX3_tryPart_157 (Jk_v rfl rfl fun hok15 => ?_)
      cases h
      exact J_zreturn dX3_tryPart_160 rfl (okB_b hok15) rfl rfl rfl rfl
    · replace h := ifn c63 h
      by_cases c64 : v1 = 104
      · replace h := ifp c64 h
        refine J_topi c64.symm ?_
        refine J_lookup (pc := 8) (tgt := 60) dX3_tryPart_8 (by decide) rfl (by decide) ?_
        refine J_aload_n (pc := 60) dX3_tryPart_60 rfl 0 rfl ?_
        refine J_aload_n (pc := 61) dX3_tryPart_61 rfl 0 rfl ?_
        refine get_0_4 (pc := 62) w_158 dX3_tryPart_62 ?_
        refine J_iload_n (pc := 65) dX3_tryPart_65 rfl 1 rfl ?_
        refine J_iconst (v := (1 : Int32)) (pc := 66) dX3_tryPart_66 (by decide) ?_
        refine J_iadd (pc := 67) dX3_tryPart_67 ?_
        obtain ⟨v16, hc17, h⟩ := obind_e h
        refine J_callV (g := mi_X2_digitAt) (ci := 2) (pc := 68) [.int (a1 + (1 : Int32))] [.ref 0] mv_X2_digitAt w_692 (k_X2_digitAt  (a1 + (1 : Int32)) _ hc17) rfl (by decide) rfl rfl rfl ⟨⟨Nat.le_of_ble_eq_true rfl, Nat.le_of_ble_eq_true rfl⟩, Nat.le_of_ble_eq_true rfl, Nat.le_of_ble_eq_true rfl⟩ (Nat.le_of_ble_eq_true rfl) dX3_tryPart_68 (Jk_v rfl rfl fun hok18 => ?_)
        refine J_aload_n (pc := 71) dX3_tryPart_71 rfl 0 rfl ?_
        refine get_0_4 (pc := 72) w_158 dX3_tryPart_72 ?_
        refine J_iload_n (pc := 75) dX3_tryPart_75 rfl 1 rfl ?_
        refine J_iconst (v := (3 : Int32)) (pc := 76) dX3_tryPart_76 (by decide) ?_
        refine J_iadd (pc := 77) dX3_tryPart_77 ?_
        obtain ⟨v19, hc20, h⟩ := obind_e h
        refine J_callV (g := mi_X2_digitAt) (ci := 2) (pc := 78) [.int (a1 + (3 : Int32))] [.int v16, .ref 0] mv_X2_digitAt w_692 (k_X2_digitAt  (a1 + (3 : Int32)) _ hc20) rfl (by decide) rfl rfl rfl ⟨⟨Nat.le_of_ble_eq_true rfl, Nat.le_of_ble_eq_true rfl⟩, Nat.le_of_ble_eq_true rfl, Nat.le_of_ble_eq_true rfl⟩ (Nat.le_of_ble_eq_true rfl) dX3_tryPart_78 (Jk_v rfl rfl fun hok21 => ?_)
        refine J_aload_n (pc := 81) dX3_tryPart_81 rfl 0 rfl ?_
        refine get_0_4 (pc := 82) w_158 dX3_tryPart_82 ?_
        refine J_iload_n (pc := 85) dX3_tryPart_85 rfl 1 rfl ?_
        refine J_iconst (v := (5 : Int32)) (pc := 86) dX3_tryPart_86 (by decide) ?_
        refine J_iadd (pc := 87) dX3_tryPart_87 ?_
        obtain ⟨v22, hc23, h⟩ := obind_e h
        refine J_callV (g := mi_X2_digitAt) (ci := 2) (pc := 88) [.int (a1 + (5 : Int32))] [.int v19, .int v16, .ref 0] mv_X2_digitAt w_692 (k_X2_digitAt  (a1 + (5 : Int32)) _ hc23) rfl (by decide) rfl rfl rfl ⟨⟨Nat.le_of_ble_eq_true rfl, Nat.le_of_ble_eq_true rfl⟩, Nat.le_of_ble_eq_true rfl, Nat.le_of_ble_eq_true rfl⟩ (Nat.le_of_ble_eq_true rfl) dX3_tryPart_88 (Jk_v rfl rfl fun hok24 => ?_)
        obtain ⟨v25, M26, hc27, h⟩ := obind2_e h
        refine J_callV (g := mi_X3_tryEntering) (ci := 3) (pc := 91) [.int v16, .int v19, .int v22] [] mv_X3_tryEntering w_696 (k_X3_tryEntering  v16 v19 v22 _ hc27) rfl (by decide) rfl rfl rfl ⟨⟨Nat.le_of_ble_eq_true rfl, Nat.le_of_ble_eq_true rfl⟩, Nat.le_of_ble_eq_true rfl, Nat.le_of_ble_eq_true rfl⟩ (Nat.le_of_ble_eq_true rfl) dX3_tryPart_91 (Jk_v rfl rfl fun hok28 => ?_)
        cases h
        exact J_zreturn dX3_tryPart_94 rfl (okB_b hok28) rfl rfl rfl rfl
      · replace h := ifn c64 h
        by_cases c65 : v1 = 118
        · replace h := ifp c65 h
          refine J_topi c65.symm ?_
          refine J_lookup (pc := 8) (tgt := 95) dX3_tryPart_8 (by decide) rfl (by decide) ?_
          refine J_aload_n (pc := 95) dX3_tryPart_95 rfl 0 rfl ?_
          refine J_iconst (v := (5 : Int32)) (pc := 96) dX3_tryPart_96 (by decide) ?_
          refine J_aload_n (pc := 97) dX3_tryPart_97 rfl 0 rfl ?_
          refine get_0_4 (pc := 98) w_158 dX3_tryPart_98 ?_
          refine J_iload_n (pc := 101) dX3_tryPart_101 rfl 1 rfl ?_
          refine J_iconst (v := (1 : Int32)) (pc := 102) dX3_tryPart_102 (by decide) ?_
          refine J_iadd (pc := 103) dX3_tryPart_103 ?_
          obtain ⟨v29, hc30, h⟩ := obind_e h
          refine J_callV (g := mi_X2_digitAt) (ci := 2) (pc := 104) [.int (a1 + (1 : Int32))] [.int (5 : Int32), .ref 0] mv_X2_digitAt w_692 (k_X2_digitAt  (a1 + (1 : Int32)) _ hc30) rfl (by decide) rfl rfl rfl ⟨⟨Nat.le_of_ble_eq_true rfl, Nat.le_of_ble_eq_true rfl⟩, Nat.le_of_ble_eq_true rfl, Nat.le_of_ble_eq_true rfl⟩ (Nat.le_of_ble_eq_true rfl) dX3_tryPart_104 (Jk_v rfl rfl fun hok31 => ?_)
          refine J_iadd (pc := 107) dX3_tryPart_107 ?_
          refine J_aload_n (pc := 108) dX3_tryPart_108 rfl 0 rfl ?_
          refine get_0_4 (pc := 109) w_158 dX3_tryPart_109 ?_
          refine J_iload_n (pc := 112) dX3_tryPart_112 rfl 1 rfl ?_
          refine J_iconst (v := (3 : Int32)) (pc := 113) dX3_tryPart_113 (by decide) ?_
          refine J_iadd (pc := 114) dX3_tryPart_114 ?_
          obtain ⟨v32, hc33, h⟩ := obind_e h
          refine J_callV (g := mi_X2_digitAt) (ci := 2) (pc := 115) [.int (a1 + (3 : Int32))] [.int ((5 : Int32) + v29), .ref 0] mv_X2_digitAt w_692 (k_X2_digitAt  (a1 + (3 : Int32)) _ hc33) rfl (by decide) rfl rfl rfl ⟨⟨Nat.le_of_ble_eq_true rfl, Nat.le_of_ble_eq_true rfl⟩, Nat.le_of_ble_eq_true rfl, Nat.le_of_ble_eq_true rfl⟩ (Nat.le_of_ble_eq_true rfl) dX3_tryPart_115 (Jk_v rfl rfl fun hok34 => ?_)
          refine J_aload_n (pc := 118) dX3_tryPart_118 rfl 0 rfl ?_
          refine get_0_4 (pc := 119) w_158 dX3_tryPart_119 ?_
          refine J_iload_n (pc := 122) dX3_tryPart_122 rfl 1 rfl ?_
          refine J_iconst (v := (5 : Int32)) (pc := 123) dX3_tryPart_123 (by decide) ?_
          refine J_iadd (pc := 124) dX3_tryPart_124 ?_
          obtain ⟨v35, hc36, h⟩ := obind_e h
          refine J_callV (g := mi_X2_digitAt) (ci := 2) (pc := 125) [.int (a1 + (5 : Int32))] [.int v32, .int ((5 : Int32) + v29), .ref 0] mv_X2_digitAt w_692 (k_X2_digitAt  (a1 + (5 : Int32)) _ hc36) rfl (by decide) rfl rfl rfl ⟨⟨Nat.le_of_ble_eq_true rfl, Nat.le_of_ble_eq_true rfl⟩, Nat.le_of_ble_eq_true rfl, Nat.le_of_ble_eq_true rfl⟩ (Nat.le_of_ble_eq_true rfl) dX3_tryPart_125 (Jk_v rfl rfl fun hok37 => ?_)
          obtain ⟨v38, M39, hc40, h⟩ := obind2_e h
          refine J_callV (g := mi_X3_tryEntering) (ci := 3) (pc := 128) [.int ((5 : Int32) + v29), .int v32, .int v35] [] mv_X3_tryEntering w_696 (k_X3_tryEntering  ((5 : Int32) + v29) v32 v35 _ hc40) rfl (by decide) rfl rfl rfl ⟨⟨Nat.le_of_ble_eq_true rfl, Nat.le_of_ble_eq_true rfl⟩, Nat.le_of_ble_eq_true rfl, Nat.le_of_ble_eq_true rfl⟩ (Nat.le_of_ble_eq_true rfl) dX3_tryPart_128 (Jk_v rfl rfl fun hok41 => ?_)
          cases h
          exact J_zreturn dX3_tryPart_131 rfl (okB_b hok41) rfl rfl rfl rfl
        · replace h := ifn c65 h
          by_cases c66 : v1 = 119
          · replace h := ifp c66 h
            refine J_topi c66.symm ?_
            refine J_lookup (pc := 8) (tgt := 132) dX3_tryPart_8 (by decide) rfl (by decide) ?_
            refine J_aload_n (pc := 132) dX3_tryPart_132 rfl 0 rfl ?_
            refine J_aload_n (pc := 133) dX3_tryPart_133 rfl 0 rfl ?_
            refine get_0_4 (pc := 134) w_158 dX3_tryPart_134 ?_
            refine J_iload_n (pc := 137) dX3_tryPart_137 rfl 1 rfl ?_
            refine J_iconst (v := (1 : Int32)) (pc := 138) dX3_tryPart_138 (by decide) ?_
            refine J_iadd (pc := 139) dX3_tryPart_139 ?_
            obtain ⟨v42, hc43, h⟩ := obind_e h
            refine J_callV (g := mi_X2_cellAt) (ci := 2) (pc := 140) [.int (a1 + (1 : Int32))] [.ref 0] mv_X2_cellAt w_700 (k_X2_cellAt  (a1 + (1 : Int32)) _ hc43) rfl (by decide) rfl rfl rfl ⟨⟨Nat.le_of_ble_eq_true rfl, Nat.le_of_ble_eq_true rfl⟩, Nat.le_of_ble_eq_true rfl, Nat.le_of_ble_eq_true rfl⟩ (Nat.le_of_ble_eq_true rfl) dX3_tryPart_140 (Jk_v rfl rfl fun hok44 => ?_)
            obtain ⟨v45, M46, hc47, h⟩ := obind2_e h
            refine J_callV (g := mi_X3_tryWall) (ci := 3) (pc := 143) [.int v42] [] mv_X3_tryWall w_705 (k_X3_tryWall  v42 _ hc47) rfl (by decide) rfl rfl rfl ⟨⟨Nat.le_of_ble_eq_true rfl, Nat.le_of_ble_eq_true rfl⟩, Nat.le_of_ble_eq_true rfl, Nat.le_of_ble_eq_true rfl⟩ (Nat.le_of_ble_eq_true rfl) dX3_tryPart_143 (Jk_v rfl rfl fun hok48 => ?_)
            cases h
            exact J_zreturn dX3_tryPart_146 rfl (okB_b hok48) rfl rfl rfl rfl
          · replace h := ifn c66 h
            refine J_lookup (pc := 8) (tgt := 161) dX3_tryPart_8 (by decide) (lsw_X3_tryPart_8 v1 c62 c63 c64 c65 c66) (by decide) ?_
            refine J_aload_n (pc := 161) dX3_tryPart_161 rfl 0 rfl ?_
            refine J_aload_n (pc := 162) dX3_tryPart_162 rfl 0 rfl ?_
            refine get_0_4 (pc := 163) w_158 dX3_tryPart_163 ?_
            refine J_iload_n (pc := 166) dX3_tryPart_166 rfl 1 rfl ?_
            obtain ⟨v49, hc50, h⟩ := obind_e h
            refine J_callV (g := mi_X2_digitAt) (ci := 2) (pc := 167) [.int a1] [.ref 0] mv_X2_digitAt w_692 (k_X2_digitAt  a1 _ hc50) rfl (by decide) rfl rfl rfl ⟨⟨Nat.le_of_ble_eq_true rfl, Nat.le_of_ble_eq_true rfl⟩, Nat.le_of_ble_eq_true rfl, Nat.le_of_ble_eq_true rfl⟩ (Nat.le_of_ble_eq_true rfl) dX3_tryPart_167 (Jk_v rfl rfl fun hok51 => ?_)
            refine J_aload_n (pc := 170) dX3_tryPart_170 rfl 0 rfl ?_
            refine get_0_4 (pc := 171) w_158 dX3_tryPart_171 ?_
            refine J_iload_n (pc := 174) dX3_tryPart_174 rfl 1 rfl ?_
            refine J_iconst (v := (1 : Int32)) (pc := 175) dX3_tryPart_175 (by decide) ?_
            refine J_iadd (pc := 176) dX3_tryPart_176 ?_
            obtain ⟨v52, hc53, h⟩ := obind_e h
            refine J_callV (g := mi_X2_signAt) (ci := 2) (pc := 177) [.int (a1 + (1 : Int32))] [.int v49, .ref 0] mv_X2_signAt w_727 (k_X2_signAt  (a1 + (1 : Int32)) _ hc53) rfl (by decide) rfl rfl rfl ⟨⟨Nat.le_of_ble_eq_true rfl, Nat.le_of_ble_eq_true rfl⟩, Nat.le_of_ble_eq_true rfl, Nat.le_of_ble_eq_true rfl⟩ (Nat.le_of_ble_eq_true rfl) dX3_tryPart_177 (Jk_v rfl rfl fun hok54 => ?_)
            refine J_aload_n (pc := 180) dX3_tryPart_180 rfl 0 rfl ?_
            refine get_0_4 (pc := 181) w_158 dX3_tryPart_181 ?_
            refine J_iload_n (pc := 184) dX3_tryPart_184 rfl 1 rfl ?_
            refine J_iconst (v := (2 : Int32)) (pc := 185) dX3_tryPart_185 (by decide) ?_
            refine J_iadd (pc := 186) dX3_tryPart_186 ?_
            obtain ⟨v55, hc56, h⟩ := obind_e h
            refine J_callV (g := mi_X2_digitAt) (ci := 2) (pc := 187) [.int (a1 + (2 : Int32))] [.int v52, .int v49, .ref 0] mv_X2_digitAt w_692 (k_X2_digitAt  (a1 + (2 : Int32)) _ hc56) rfl (by decide) rfl rfl rfl ⟨⟨Nat.le_of_ble_eq_true rfl, Nat.le_of_ble_eq_true rfl⟩, Nat.le_of_ble_eq_true rfl, Nat.le_of_ble_eq_true rfl⟩ (Nat.le_of_ble_eq_true rfl) dX3_tryPart_187 (Jk_v rfl rfl fun hok57 => ?_)
            refine J_imul (pc := 190) dX3_tryPart_190 ?_
            obtain ⟨v58, M59, hc60, h⟩ := obind2_e h
            refine J_callV (g := mi_X3_trySliding) (ci := 3) (pc := 191) [.int v49, .int (v52 * v55)] [] mv_X3_trySliding w_731 (k_X3_trySliding  v49 (v52 * v55) _ hc60) rfl (by decide) rfl rfl rfl ⟨⟨Nat.le_of_ble_eq_true rfl, Nat.le_of_ble_eq_true rfl⟩, Nat.le_of_ble_eq_true rfl, Nat.le_of_ble_eq_true rfl⟩ (Nat.le_of_ble_eq_true rfl) dX3_tryPart_191 (Jk_v rfl rfl fun hok61 => ?_)
            cases h
            exact J_zreturn dX3_tryPart_194 rfl (okB_b hok61) rfl rfl rfl rfl
set_option maxHeartbeats 4000000 in
set_option maxRecDepth 100000 in
theorem kL_X3_work_L33 {κ : Kx} {E : En} {Q : State → Prop} {ρ : Type} {r : ρ} (K86 : Int32 → Int32 → Wd → Option ρ) (hK86 : ∀ (x1 : Int32) (x3 : Int32) (M : Wd), K86 x1 x3 M = some r → J κ E mi_X3_work Q 0 0 [(0, .ref 0), (1, .int x1), (3, .int x3)] M 86 []) : ∀ (m : Nat) (x1 : Int32) (x2 : Int32) (x3 : Int32) (x4 : Int32) (M : Wd), F_X3_work_L33 K86 m x1 x2 x3 x4 M = some r → J κ E mi_X3_work Q 0 0 [(0, .ref 0), (1, .int x1), (2, .int x2), (3, .int x3), (4, .int x4)] M 33 [] := by
  intro m
  induction m with
  | zero => intro x1 x2 x3 x4 M h; exact (nomatch (show (none : Option ρ) = some r from h))
  | succ m ih =>
    intro x1 x2 x3 x4 M h
    unfold F_X3_work_L33 at h
    refine J_iload (pc := 33) dX3_work_33 4 rfl ?_
    refine J_bipush (v := (60 : Int32)) (pc := 35) dX3_work_35 (by decide) ?_
    refine J_icmp_ge (pc := 37) (tgt := 86) dX3_work_37 (by decide) (fun c7 => ?_) (fun c7 => ?_)
    · replace h := ifp c7 h
      refine J_sub [0, 1, 3] rfl ?_
      exact hK86 _ _ _ h
    · replace h := ifn c7 h
      refine J_iload_n (pc := 40) dX3_work_40 rfl 2 rfl ?_
      refine J_aload_n (pc := 41) dX3_work_41 rfl 0 rfl ?_
      refine get_0_4 (pc := 42) w_158 dX3_work_42 ?_
      refine get_51_1 (pc := 45) w_148 dX3_work_45 ?_
      refine J_icmp_ge (pc := 48) (tgt := 86) dX3_work_48 (by decide) (fun c8 => ?_) (fun c8 => ?_)
      · replace h := ifp c8 h
        refine J_sub [0, 1, 3] rfl ?_
        exact hK86 _ _ _ h
      · replace h := ifn c8 h
        refine J_iload_n (pc := 51) dX3_work_51 rfl 3 rfl ?_
        refine J_if_ne (pc := 52) (tgt := 86) dX3_work_52 (by decide) (fun c9 => ?_) (fun c9 => ?_)
        · replace h := ifn c9 h
          refine J_sub [0, 1, 3] rfl ?_
          exact hK86 _ _ _ h
        · replace h := ifp c9 h
          refine J_aload_n (pc := 55) dX3_work_55 rfl 0 rfl ?_
          refine J_iload_n (pc := 56) dX3_work_56 rfl 2 rfl ?_
          obtain ⟨v10, M11, hc12, h⟩ := obind2_e h
          refine J_callV (g := mi_X3_tryPart) (ci := 3) (pc := 57) [.int x2] [] mv_X3_tryPart w_688 (k_X3_tryPart  x2 _ hc12) rfl (by decide) rfl rfl rfl ⟨⟨Nat.le_of_ble_eq_true rfl, Nat.le_of_ble_eq_true rfl⟩, Nat.le_of_ble_eq_true rfl, Nat.le_of_ble_eq_true rfl⟩ (Nat.le_of_ble_eq_true rfl) dX3_work_57 (Jk_v rfl rfl fun hok13 => ?_)
          obtain ⟨v14, v15, v16, hv23, h⟩ := obind3_e h
          refine J_join [(0, .ref 0), (1, .int v14), (2, .int v15), (3, .int v16), (4, .int x4)] M11 80 [] ?_ (fun hJ => ?_)
          · obtain ⟨v24, e25, h⟩ := bnd_e h
            refine J_iinc (v := v24) (pc := 80) dX3_work_80 4 rfl (by rw [e25]; rfl) (Nat.le_of_ble_eq_true rfl) [1, 2, 3, 4, 0] rfl ?_
            refine J_goto (pc := 83) (tgt := 33) dX3_work_83 (by decide) ?_
            exact ih _ _ _ _ _ h
          · replace h := hv23
            refine J_if_eq (pc := 60) (tgt := 78) dX3_work_60 (by decide) (fun c17 => ?_) (fun c17 => ?_)
            · replace h := ifp c17 h
              refine J_iconst (v := (1 : Int32)) (pc := 78) dX3_work_78 (by decide) ?_
              refine J_istore_n (pc := 79) dX3_work_79 rfl (Nat.le_of_ble_eq_true rfl) [1, 2, 3, 0, 4] rfl ?_
              cases h
              exact hJ
            · replace h := ifn c17 h
              obtain ⟨v18, e19, h⟩ := bnd_e h
              refine J_iinc (v := v18) (pc := 63) dX3_work_63 1 rfl (by rw [e19]; rfl) (Nat.le_of_ble_eq_true rfl) [1, 0, 2, 3, 4] rfl ?_
              refine J_aload_n (pc := 66) dX3_work_66 rfl 0 rfl ?_
              refine get_0_4 (pc := 67) w_158 dX3_work_67 ?_
              refine J_iload_n (pc := 70) dX3_work_70 rfl 2 rfl ?_
              obtain ⟨v20, hc21, h⟩ := obind_e h
              refine J_callV (g := mi_X2_nextPart) (ci := 2) (pc := 71) [.int x2] [] mv_X2_nextPart w_735 (k_X2_nextPart  x2 _ hc21) rfl (by decide) rfl rfl rfl ⟨⟨Nat.le_of_ble_eq_true rfl, Nat.le_of_ble_eq_true rfl⟩, Nat.le_of_ble_eq_true rfl, Nat.le_of_ble_eq_true rfl⟩ (Nat.le_of_ble_eq_true rfl) dX3_work_71 (Jk_v rfl rfl fun hok22 => ?_)
              refine J_istore_n (pc := 74) dX3_work_74 rfl (Nat.le_of_ble_eq_true rfl) [1, 2, 0, 3, 4] rfl ?_
              refine J_LS [(0, .ref 0), (1, .int v18), (2, .int v20), (3, .int x3), (4, .int x4)] [] rfl rfl ?_
              refine J_goto (pc := 75) (tgt := 80) dX3_work_75 (by decide) ?_
              cases h
              exact hJ
set_option maxHeartbeats 4000000 in
set_option maxRecDepth 100000 in
theorem k_X3_work {E : En} (M : Wd) {r : Int32 ⊕ Nat} {M' : Wd} (h : F_X3_work M = some (r, M')) : Con E mi_X3_work [.ref 0] M (ocI r) M' := by
  unfold F_X3_work at h
  refine Con.of (by decide) rfl (Nat.le_of_ble_eq_true rfl) (fun κ => ?_)
  show J κ E mi_X3_work _ 0 0 [(0, .ref 0)] M 0 []
  refine J_aload_n (pc := 0) dX3_work_0 rfl 0 rfl ?_
  refine get_0_4 (pc := 1) w_158 dX3_work_1 ?_
  obtain ⟨v1, hc2, h⟩ := obind_e h
  refine J_callV (g := mi_X2_isComplete) (ci := 2) (pc := 4) [] [] mv_X2_isComplete w_667 (k_X2_isComplete  _ hc2) rfl (by decide) rfl rfl rfl ⟨⟨Nat.le_of_ble_eq_true rfl, Nat.le_of_ble_eq_true rfl⟩, Nat.le_of_ble_eq_true rfl, Nat.le_of_ble_eq_true rfl⟩ (Nat.le_of_ble_eq_true rfl) dX3_work_4 (Jk_v rfl rfl fun hok3 => ?_)
  refine J_if_ne (pc := 7) (tgt := 20) dX3_work_7 (by decide) (fun c4 => ?_) (fun c4 => ?_)
  · replace h := ifn c4 h
    refine J_aload_n (pc := 20) dX3_work_20 rfl 0 rfl ?_
    obtain ⟨M5, hc6, h⟩ := obind_e h
    refine J_callV (g := mi_X3_save) (ci := 3) (pc := 21) [] [] mv_X3_save w_551 (k_X3_save _ hc6) rfl (by decide) rfl rfl rfl ⟨⟨Nat.le_of_ble_eq_true rfl, Nat.le_of_ble_eq_true rfl⟩, Nat.le_of_ble_eq_true rfl, Nat.le_of_ble_eq_true rfl⟩ (Nat.le_of_ble_eq_true rfl) dX3_work_21 (Jk_0 rfl rfl ?_)
    refine J_iconst (v := (0 : Int32)) (pc := 24) dX3_work_24 (by decide) ?_
    refine J_istore_n (pc := 25) dX3_work_25 rfl (Nat.le_of_ble_eq_true rfl) [1, 0] rfl ?_
    refine J_iconst (v := (0 : Int32)) (pc := 26) dX3_work_26 (by decide) ?_
    refine J_istore_n (pc := 27) dX3_work_27 rfl (Nat.le_of_ble_eq_true rfl) [1, 2, 0] rfl ?_
    refine J_LS [(0, .ref 0), (1, .int (0 : Int32)), (2, .int (0 : Int32))] [] rfl rfl ?_
    refine J_iconst (v := (0 : Int32)) (pc := 28) dX3_work_28 (by decide) ?_
    refine J_istore_n (pc := 29) dX3_work_29 rfl (Nat.le_of_ble_eq_true rfl) [1, 2, 3, 0] rfl ?_
    refine J_iconst (v := (0 : Int32)) (pc := 30) dX3_work_30 (by decide) ?_
    refine J_istore (pc := 31) dX3_work_31 (Nat.le_of_ble_eq_true rfl) [1, 2, 3, 4, 0] rfl ?_
    refine J_LS [(0, .ref 0), (1, .int (0 : Int32)), (2, .int (0 : Int32)), (3, .int (0 : Int32)), (4, .int (0 : Int32))] [] rfl rfl ?_
    refine kL_X3_work_L33 _ (fun v26 v27 M28 h => ?_) fuelN _ _ _ _ _ h
    refine J_aload_n (pc := 86) dX3_work_86 rfl 0 rfl ?_
    refine get_0_0 (pc := 87) w_154 dX3_work_87 ?_
    refine J_iload_n (pc := 90) dX3_work_90 rfl 2 rfl ?_
    obtain ⟨hb29, h⟩ := chB_e h
    refine put_1_8 (pc := 91) w_67 hb29 dX3_work_91 ?_
    refine J_aload_n (pc := 94) dX3_work_94 rfl 0 rfl ?_
    refine get_0_0 (pc := 95) w_154 dX3_work_95 ?_
    refine J_iload_n (pc := 98) dX3_work_98 rfl 2 rfl ?_
    obtain ⟨v30, e31, h⟩ := bnd_e h
    refine J_join [(0, .ref 0), (1, .int v26)] (upI M28 1 8 v27) 107 [.int v30, .ref 1] ?_ (fun hJ => ?_)
    · refine put_1_9 (pc := 107) w_69 dX3_work_107 ?_
      refine J_aload_n (pc := 110) dX3_work_110 rfl 0 rfl ?_
      refine get_0_4 (pc := 111) w_158 dX3_work_111 ?_
      obtain ⟨v33, M34, hc35, h⟩ := obind2_e h
      refine J_callV (g := mi_X2_clear) (ci := 2) (pc := 114) [] [] mv_X2_clear w_739 (k_X2_clear  _ hc35) rfl (by decide) rfl rfl rfl ⟨⟨Nat.le_of_ble_eq_true rfl, Nat.le_of_ble_eq_true rfl⟩, Nat.le_of_ble_eq_true rfl, Nat.le_of_ble_eq_true rfl⟩ (Nat.le_of_ble_eq_true rfl) dX3_work_114 (Jk_v rfl rfl fun hok36 => ?_)
      refine J_pop (pc := 117) dX3_work_117 rfl ?_
      refine J_iload_n (pc := 118) dX3_work_118 rfl 1 rfl ?_
      cases h
      refine J_wide (k' := 1) (n' := 6) (Nat.le_of_ble_eq_true rfl) (Nat.le_of_ble_eq_true rfl) ?_
      exact J_ireturn dX3_work_119 rfl rfl rfl rfl rfl
    · refine J_if_eq (pc := 99) (tgt := 106) dX3_work_99 (by decide) (fun c32 => ?_) (fun c32 => ?_)
      · refine J_iconst (v := (0 : Int32)) (pc := 106) dX3_work_106 (by decide) ?_
        refine J_sub [0, 1] rfl ?_
        refine J_topi (y := v30) (by rw [e31, if_pos c32]) ?_
        exact hJ
      · refine J_iload_n (pc := 102) dX3_work_102 rfl 1 rfl ?_
        refine J_goto (pc := 103) (tgt := 107) dX3_work_103 (by decide) ?_
        refine J_sub [0, 1] rfl ?_
        refine J_topi (y := v30) (by rw [e31, if_neg c32]) ?_
        exact hJ
  · replace h := ifp c4 h
    cases h
    exact J_throwS (pc := 10) (text := "the buffer is not complete works") rfl rfl rfl (by decide +kernel) w_519 w_28 (by decide) ats_RX3_110 dX3_work_10 dX3_work_13 dX3_work_14 dX3_work_16 dX3_work_19 ⟨⟨Nat.le_of_ble_eq_true rfl, Nat.le_of_ble_eq_true rfl⟩, Nat.le_of_ble_eq_true rfl, Nat.le_of_ble_eq_true rfl⟩
set_option maxHeartbeats 4000000 in
set_option maxRecDepth 100000 in
theorem k_X3_stoppedPart {E : En} (M : Wd) {r : Int32 ⊕ Nat} {M' : Wd} (h : F_X3_stoppedPart M = some (r, M')) : Con E mi_X3_stoppedPart [.ref 0] M (ocI r) M' := by
  unfold F_X3_stoppedPart at h
  refine Con.of (by decide) rfl (Nat.le_of_ble_eq_true rfl) (fun κ => ?_)
  show J κ E mi_X3_stoppedPart _ 0 0 [(0, .ref 0)] M 0 []
  refine J_aload_n (pc := 0) dX3_stoppedPart_0 rfl 0 rfl ?_
  refine get_0_0 (pc := 1) w_154 dX3_stoppedPart_1 ?_
  refine get_1_8 (pc := 4) w_67 dX3_stoppedPart_4 ?_
  refine J_if_ne (pc := 7) (tgt := 20) dX3_stoppedPart_7 (by decide) (fun c1 => ?_) (fun c1 => ?_)
  · replace h := ifn c1 h
    refine J_aload_n (pc := 20) dX3_stoppedPart_20 rfl 0 rfl ?_
    refine get_0_0 (pc := 21) w_154 dX3_stoppedPart_21 ?_
    refine get_1_9 (pc := 24) w_69 dX3_stoppedPart_24 ?_
    cases h
    refine J_wide (k' := 1) (n' := 6) (Nat.le_of_ble_eq_true rfl) (Nat.le_of_ble_eq_true rfl) ?_
    exact J_ireturn dX3_stoppedPart_27 rfl rfl rfl rfl rfl
  · replace h := ifp c1 h
    cases h
    exact J_throwS (pc := 10) (text := "the latest work did not stop") rfl rfl rfl (by decide +kernel) w_535 w_29 (by decide) ats_RX3_66 dX3_stoppedPart_10 dX3_stoppedPart_13 dX3_stoppedPart_14 dX3_stoppedPart_16 dX3_stoppedPart_19 ⟨⟨Nat.le_of_ble_eq_true rfl, Nat.le_of_ble_eq_true rfl⟩, Nat.le_of_ble_eq_true rfl, Nat.le_of_ble_eq_true rfl⟩
set_option maxHeartbeats 4000000 in
set_option maxRecDepth 100000 in
theorem k_X3_undo {E : En} (M : Wd) {r : Int32 ⊕ Nat} {M' : Wd} (h : F_X3_undo M = some (r, M')) : Con E mi_X3_undo [.ref 0] M (ocI r) M' := by
  unfold F_X3_undo at h
  refine Con.of (by decide) rfl (Nat.le_of_ble_eq_true rfl) (fun κ => ?_)
  show J κ E mi_X3_undo _ 0 0 [(0, .ref 0)] M 0 []
  refine J_aload_n (pc := 0) dX3_undo_0 rfl 0 rfl ?_
  refine get_0_5 (pc := 1) w_159 dX3_undo_1 ?_
  refine J_if_le (pc := 4) (tgt := 15) dX3_undo_4 (by decide) (fun c1 => ?_) (fun c1 => ?_)
  · replace h := ifp c1 h
    cases h
    exact J_throwS (pc := 15) (text := "there is no saved state") rfl rfl rfl (by decide +kernel) w_535 w_29 (by decide) ats_RX3_66 dX3_undo_15 dX3_undo_18 dX3_undo_19 dX3_undo_21 dX3_undo_24 ⟨⟨Nat.le_of_ble_eq_true rfl, Nat.le_of_ble_eq_true rfl⟩, Nat.le_of_ble_eq_true rfl, Nat.le_of_ble_eq_true rfl⟩
  · replace h := ifn c1 h
    refine J_aload_n (pc := 7) dX3_undo_7 rfl 0 rfl ?_
    refine get_0_5 (pc := 8) w_159 dX3_undo_8 ?_
    refine J_iconst (v := (5 : Int32)) (pc := 11) dX3_undo_11 (by decide) ?_
    refine J_icmp_le (pc := 12) (tgt := 25) dX3_undo_12 (by decide) (fun c2 => ?_) (fun c2 => ?_)
    · replace h := ifp c2 h
      refine J_aload_n (pc := 25) dX3_undo_25 rfl 0 rfl ?_
      refine J_dup (pc := 26) dX3_undo_26 rfl ?_
      refine get_0_5 (pc := 27) w_159 dX3_undo_27 ?_
      refine J_iconst (v := (1 : Int32)) (pc := 30) dX3_undo_30 (by decide) ?_
      refine J_isub (pc := 31) dX3_undo_31 ?_
      refine put_0_5 (pc := 32) w_159 dX3_undo_32 ?_
      refine J_aload_n (pc := 35) dX3_undo_35 rfl 0 rfl ?_
      refine get_0_2 (pc := 36) w_156 dX3_undo_36 ?_
      refine J_aload_n (pc := 39) dX3_undo_39 rfl 0 rfl ?_
      refine get_0_5 (pc := 40) w_159 dX3_undo_40 ?_
      refine J_topi (y := ((M.1 0 5) - (1 : Int32))) (Eq.symm (show (upI M 0 5 ((M.1 0 5) - (1 : Int32))).1 0 5 = ((M.1 0 5) - (1 : Int32)) from eI_kk)) ?_
      obtain ⟨hk5, h⟩ := inb_e h
      refine J_aald (pc := 43) hk5 dX3_undo_43 ?_
      refine J_topa (y := (M.2.2 ((M.1 0 5) - (1 : Int32)).toNatClampNeg)) rfl ?_
      refine J_aload_n (pc := 44) dX3_undo_44 rfl 0 rfl ?_
      refine get_0_0 (pc := 45) w_154 dX3_undo_45 ?_
      obtain ⟨M6, hc7, h⟩ := obind_e h
      refine J_callS (g := mi_X3_copy) (pc := 48) [.ref (M.2.2 ((M.1 0 5) - (1 : Int32)).toNatClampNeg), .ref 1] [] ms_X3_copy w_559 (k_X3_copy (M.2.2 ((M.1 0 5) - (1 : Int32)).toNatClampNeg) 1 _ hc7) rfl rfl ⟨⟨Nat.le_of_ble_eq_true rfl, Nat.le_of_ble_eq_true rfl⟩, Nat.le_of_ble_eq_true rfl, Nat.le_of_ble_eq_true rfl⟩ (Nat.le_of_ble_eq_true rfl) dX3_undo_48 (Jk_0 rfl rfl ?_)
      refine J_aload_n (pc := 51) dX3_undo_51 rfl 0 rfl ?_
      refine get_0_5 (pc := 52) w_159 dX3_undo_52 ?_
      cases h
      refine J_wide (k' := 1) (n' := 6) (Nat.le_of_ble_eq_true rfl) (Nat.le_of_ble_eq_true rfl) ?_
      exact J_ireturn dX3_undo_55 rfl rfl rfl rfl rfl
    · replace h := ifn c2 h
      cases h
      exact J_throwS (pc := 15) (text := "there is no saved state") rfl rfl rfl (by decide +kernel) w_535 w_29 (by decide) ats_RX3_66 dX3_undo_15 dX3_undo_18 dX3_undo_19 dX3_undo_21 dX3_undo_24 ⟨⟨Nat.le_of_ble_eq_true rfl, Nat.le_of_ble_eq_true rfl⟩, Nat.le_of_ble_eq_true rfl, Nat.le_of_ble_eq_true rfl⟩
set_option maxHeartbeats 4000000 in
set_option maxRecDepth 100000 in
theorem k_X3_undo_n {E : En} (M : Wd) {r : Int32} {M' : Wd} (h : F_X3_undo_n M = some (r, M')) : Con E mi_X3_undo_n [.ref 0] M (.inl (some (.int r))) M' := by
  unfold F_X3_undo_n at h
  refine Con.of (by decide) rfl (Nat.le_of_ble_eq_true rfl) (fun κ => ?_)
  show J κ E mi_X3_undo_n _ 0 0 [(0, .ref 0)] M 0 []
  refine J_aload_n (pc := 0) dX3_undo_0 rfl 0 rfl ?_
  refine get_0_5 (pc := 1) w_159 dX3_undo_1 ?_
  refine J_if_le (pc := 4) (tgt := 15) dX3_undo_4 (by decide) (fun c1 => ?_) (fun c1 => ?_)
  · replace h := ifp c1 h
    cases h
  · replace h := ifn c1 h
    refine J_aload_n (pc := 7) dX3_undo_7 rfl 0 rfl ?_
    refine get_0_5 (pc := 8) w_159 dX3_undo_8 ?_
    refine J_iconst (v := (5 : Int32)) (pc := 11) dX3_undo_11 (by decide) ?_
    refine J_icmp_le (pc := 12) (tgt := 25) dX3_undo_12 (by decide) (fun c2 => ?_) (fun c2 => ?_)
    · replace h := ifp c2 h
      refine J_aload_n (pc := 25) dX3_undo_25 rfl 0 rfl ?_
      refine J_dup (pc := 26) dX3_undo_26 rfl ?_
      refine get_0_5 (pc := 27) w_159 dX3_undo_27 ?_
      refine J_iconst (v := (1 : Int32)) (pc := 30) dX3_undo_30 (by decide) ?_
      refine J_isub (pc := 31) dX3_undo_31 ?_
      refine put_0_5 (pc := 32) w_159 dX3_undo_32 ?_
      refine J_aload_n (pc := 35) dX3_undo_35 rfl 0 rfl ?_
      refine get_0_2 (pc := 36) w_156 dX3_undo_36 ?_
      refine J_aload_n (pc := 39) dX3_undo_39 rfl 0 rfl ?_
      refine get_0_5 (pc := 40) w_159 dX3_undo_40 ?_
      refine J_topi (y := ((M.1 0 5) - (1 : Int32))) (Eq.symm (show (upI M 0 5 ((M.1 0 5) - (1 : Int32))).1 0 5 = ((M.1 0 5) - (1 : Int32)) from eI_kk)) ?_
      obtain ⟨hk5, h⟩ := inb_e h
      refine J_aald (pc := 43) hk5 dX3_undo_43 ?_
      refine J_topa (y := (M.2.2 ((M.1 0 5) - (1 : Int32)).toNatClampNeg)) rfl ?_
      refine J_aload_n (pc := 44) dX3_undo_44 rfl 0 rfl ?_
      refine get_0_0 (pc := 45) w_154 dX3_undo_45 ?_
      obtain ⟨M6, hc7, h⟩ := obind_e h
      refine J_callS (g := mi_X3_copy) (pc := 48) [.ref (M.2.2 ((M.1 0 5) - (1 : Int32)).toNatClampNeg), .ref 1] [] ms_X3_copy w_559 (k_X3_copy (M.2.2 ((M.1 0 5) - (1 : Int32)).toNatClampNeg) 1 _ hc7) rfl rfl ⟨⟨Nat.le_of_ble_eq_true rfl, Nat.le_of_ble_eq_true rfl⟩, Nat.le_of_ble_eq_true rfl, Nat.le_of_ble_eq_true rfl⟩ (Nat.le_of_ble_eq_true rfl) dX3_undo_48 (Jk_0 rfl rfl ?_)
      refine J_aload_n (pc := 51) dX3_undo_51 rfl 0 rfl ?_
      refine get_0_5 (pc := 52) w_159 dX3_undo_52 ?_
      cases h
      exact J_ireturn dX3_undo_55 rfl rfl rfl rfl rfl
    · replace h := ifn c2 h
      cases h
set_option maxHeartbeats 4000000 in
set_option maxRecDepth 100000 in
theorem k_X3_keep {E : En} (M : Wd) {r : Int32} {M' : Wd} (h : F_X3_keep M = some (r, M')) : Con E mi_X3_keep [.ref 0] M (.inl (some (.int r))) M' := by
  unfold F_X3_keep at h
  refine Con.of (by decide) rfl (Nat.le_of_ble_eq_true rfl) (fun κ => ?_)
  show J κ E mi_X3_keep _ 0 0 [(0, .ref 0)] M 0 []
  refine J_aload_n (pc := 0) dX3_keep_0 rfl 0 rfl ?_
  refine get_0_0 (pc := 1) w_154 dX3_keep_1 ?_
  refine J_aload_n (pc := 4) dX3_keep_4 rfl 0 rfl ?_
  refine get_0_1 (pc := 5) w_155 dX3_keep_5 ?_
  obtain ⟨M1, hc2, h⟩ := obind_e h
  refine J_callS (g := mi_X3_copy) (pc := 8) [.ref 1, .ref 7] [] ms_X3_copy w_559 (k_X3_copy 1 7 _ hc2) rfl rfl ⟨⟨Nat.le_of_ble_eq_true rfl, Nat.le_of_ble_eq_true rfl⟩, Nat.le_of_ble_eq_true rfl, Nat.le_of_ble_eq_true rfl⟩ (Nat.le_of_ble_eq_true rfl) dX3_keep_8 (Jk_0 rfl rfl ?_)
  refine J_aload_n (pc := 11) dX3_keep_11 rfl 0 rfl ?_
  refine J_iconst (v := (1 : Int32)) (pc := 12) dX3_keep_12 (by decide) ?_
  refine put_0_6 (pc := 13) w_160 (Or.inr rfl) dX3_keep_13 ?_
  refine J_aload_n (pc := 16) dX3_keep_16 rfl 0 rfl ?_
  refine get_0_0 (pc := 17) w_154 dX3_keep_17 ?_
  refine get_1_5 (pc := 20) w_61 dX3_keep_20 ?_
  refine J_topi (y := (M1.1 1 5)) (Eq.symm (show (upI M1 0 6 (1 : Int32)).1 1 5 = (M1.1 1 5) from (eI_ne (Nat.ne_of_beq_eq_false rfl) rfl))) ?_
  cases h
  exact J_ireturn dX3_keep_23 rfl rfl rfl rfl rfl
set_option maxHeartbeats 4000000 in
set_option maxRecDepth 100000 in
theorem k_X3_restore {E : En} (M : Wd) {r : Int32 ⊕ Nat} {M' : Wd} (h : F_X3_restore M = some (r, M')) : Con E mi_X3_restore [.ref 0] M (ocI r) M' := by
  unfold F_X3_restore at h
  refine Con.of (by decide) rfl (Nat.le_of_ble_eq_true rfl) (fun κ => ?_)
  show J κ E mi_X3_restore _ 0 0 [(0, .ref 0)] M 0 []
  refine J_aload_n (pc := 0) dX3_restore_0 rfl 0 rfl ?_
  refine get_0_6 (pc := 1) w_160 dX3_restore_1 ?_
  refine J_if_ne (pc := 4) (tgt := 17) dX3_restore_4 (by decide) (fun c1 => ?_) (fun c1 => ?_)
  · replace h := ifn c1 h
    refine J_aload_n (pc := 17) dX3_restore_17 rfl 0 rfl ?_
    obtain ⟨M2, hc3, h⟩ := obind_e h
    refine J_callV (g := mi_X3_save) (ci := 3) (pc := 18) [] [] mv_X3_save w_551 (k_X3_save _ hc3) rfl (by decide) rfl rfl rfl ⟨⟨Nat.le_of_ble_eq_true rfl, Nat.le_of_ble_eq_true rfl⟩, Nat.le_of_ble_eq_true rfl, Nat.le_of_ble_eq_true rfl⟩ (Nat.le_of_ble_eq_true rfl) dX3_restore_18 (Jk_0 rfl rfl ?_)
    refine J_aload_n (pc := 21) dX3_restore_21 rfl 0 rfl ?_
    refine get_0_1 (pc := 22) w_155 dX3_restore_22 ?_
    refine J_aload_n (pc := 25) dX3_restore_25 rfl 0 rfl ?_
    refine get_0_0 (pc := 26) w_154 dX3_restore_26 ?_
    obtain ⟨M4, hc5, h⟩ := obind_e h
    refine J_callS (g := mi_X3_copy) (pc := 29) [.ref 7, .ref 1] [] ms_X3_copy w_559 (k_X3_copy 7 1 _ hc5) rfl rfl ⟨⟨Nat.le_of_ble_eq_true rfl, Nat.le_of_ble_eq_true rfl⟩, Nat.le_of_ble_eq_true rfl, Nat.le_of_ble_eq_true rfl⟩ (Nat.le_of_ble_eq_true rfl) dX3_restore_29 (Jk_0 rfl rfl ?_)
    refine J_aload_n (pc := 32) dX3_restore_32 rfl 0 rfl ?_
    refine get_0_0 (pc := 33) w_154 dX3_restore_33 ?_
    refine get_1_5 (pc := 36) w_61 dX3_restore_36 ?_
    cases h
    refine J_wide (k' := 1) (n' := 6) (Nat.le_of_ble_eq_true rfl) (Nat.le_of_ble_eq_true rfl) ?_
    exact J_ireturn dX3_restore_39 rfl rfl rfl rfl rfl
  · replace h := ifp c1 h
    cases h
    exact J_throwS (pc := 7) (text := "there is no snapshot") rfl rfl rfl (by decide +kernel) w_535 w_29 (by decide) ats_RX3_66 dX3_restore_7 dX3_restore_10 dX3_restore_11 dX3_restore_13 dX3_restore_16 ⟨⟨Nat.le_of_ble_eq_true rfl, Nat.le_of_ble_eq_true rfl⟩, Nat.le_of_ble_eq_true rfl, Nat.le_of_ble_eq_true rfl⟩
set_option maxHeartbeats 4000000 in
set_option maxRecDepth 100000 in
theorem k_X3_savedStates {E : En} (M : Wd) : Con E mi_X3_savedStates [.ref 0] M (.inl (some (.int (F_X3_savedStates M)))) M := by
  obtain ⟨r, h⟩ : ∃ r, F_X3_savedStates M = r := ⟨_, rfl⟩
  rw [h]
  unfold F_X3_savedStates at h
  refine Con.of (by decide) rfl (Nat.le_of_ble_eq_true rfl) (fun κ => ?_)
  show J κ E mi_X3_savedStates _ 0 0 [(0, .ref 0)] M 0 []
  refine J_aload_n (pc := 0) dX3_savedStates_0 rfl 0 rfl ?_
  refine get_0_5 (pc := 1) w_159 dX3_savedStates_1 ?_
  subst h
  exact J_ireturn dX3_savedStates_4 rfl rfl rfl rfl rfl
set_option maxHeartbeats 4000000 in
set_option maxRecDepth 100000 in
theorem k_X3_cars {E : En} (M : Wd) : Con E mi_X3_cars [.ref 0] M (.inl (some (.int (F_X3_cars M)))) M := by
  obtain ⟨r, h⟩ : ∃ r, F_X3_cars M = r := ⟨_, rfl⟩
  rw [h]
  unfold F_X3_cars at h
  refine Con.of (by decide) rfl (Nat.le_of_ble_eq_true rfl) (fun κ => ?_)
  show J κ E mi_X3_cars _ 0 0 [(0, .ref 0)] M 0 []
  refine J_aload_n (pc := 0) dX3_cars_0 rfl 0 rfl ?_
  refine get_0_0 (pc := 1) w_154 dX3_cars_1 ?_
  refine get_1_5 (pc := 4) w_61 dX3_cars_4 ?_
  subst h
  exact J_ireturn dX3_cars_7 rfl rfl rfl rfl rfl
set_option maxHeartbeats 4000000 in
set_option maxRecDepth 100000 in
theorem k_X3_walls {E : En} (M : Wd) : Con E mi_X3_walls [.ref 0] M (.inl (some (.int (F_X3_walls M)))) M := by
  obtain ⟨r, h⟩ : ∃ r, F_X3_walls M = r := ⟨_, rfl⟩
  rw [h]
  unfold F_X3_walls at h
  refine Con.of (by decide) rfl (Nat.le_of_ble_eq_true rfl) (fun κ => ?_)
  show J κ E mi_X3_walls _ 0 0 [(0, .ref 0)] M 0 []
  refine J_aload_n (pc := 0) dX3_walls_0 rfl 0 rfl ?_
  refine get_0_0 (pc := 1) w_154 dX3_walls_1 ?_
  refine get_1_6 (pc := 4) w_63 dX3_walls_4 ?_
  refine J_callS (g := mi_J6_bitCount_0f7a4) (pc := 7) [.int (M.1 1 6)] [] ms_J6_bitCount_0f7a4 w_193 (k_J6_bitCount_0f7a4  (M.1 1 6) _) rfl rfl ⟨⟨Nat.le_of_ble_eq_true rfl, Nat.le_of_ble_eq_true rfl⟩, Nat.le_of_ble_eq_true rfl, Nat.le_of_ble_eq_true rfl⟩ (Nat.le_of_ble_eq_true rfl) dX3_walls_7 (Jk_v rfl rfl fun hok1 => ?_)
  subst h
  exact J_ireturn dX3_walls_10 rfl rfl rfl rfl rfl
set_option maxHeartbeats 4000000 in
set_option maxRecDepth 100000 in
theorem k_X3_laneOf {E : En} (a1 : Int32) (M : Wd) {r : Int32 ⊕ Nat} {M' : Wd} (h : F_X3_laneOf a1 M = some (r, M')) : Con E mi_X3_laneOf [.ref 0, .int a1] M (ocI r) M' := by
  unfold F_X3_laneOf at h
  refine Con.of (by decide) rfl (Nat.le_of_ble_eq_true rfl) (fun κ => ?_)
  show J κ E mi_X3_laneOf _ 0 0 [(0, .ref 0), (1, .int a1)] M 0 []
  refine J_aload_n (pc := 0) dX3_laneOf_0 rfl 0 rfl ?_
  refine get_0_0 (pc := 1) w_154 dX3_laneOf_1 ?_
  refine J_iload_n (pc := 4) dX3_laneOf_4 rfl 1 rfl ?_
  refine J_callV (g := mi_X1_hasCar) (ci := 1) (pc := 5) [.int a1] [] mv_X1_hasCar w_774 (k_X1_hasCar  a1 _) rfl (by decide) rfl rfl rfl ⟨⟨Nat.le_of_ble_eq_true rfl, Nat.le_of_ble_eq_true rfl⟩, Nat.le_of_ble_eq_true rfl, Nat.le_of_ble_eq_true rfl⟩ (Nat.le_of_ble_eq_true rfl) dX3_laneOf_5 (Jk_v rfl rfl fun hok1 => ?_)
  refine J_if_ne (pc := 8) (tgt := 21) dX3_laneOf_8 (by decide) (fun c2 => ?_) (fun c2 => ?_)
  · replace h := ifn c2 h
    refine J_aload_n (pc := 21) dX3_laneOf_21 rfl 0 rfl ?_
    refine get_0_0 (pc := 22) w_154 dX3_laneOf_22 ?_
    refine get_1_0 (pc := 25) w_49 dX3_laneOf_25 ?_
    refine J_iload_n (pc := 28) dX3_laneOf_28 rfl 1 rfl ?_
    obtain ⟨v3, e4, hk5, h⟩ := ldi_e h
    refine J_iald (c := 2) (N := 6) (pc := 29) ja_2 (Nat.le_of_ble_eq_true rfl) hk5 dX3_laneOf_29 ?_
    refine J_topi e4 ?_
    cases h
    refine J_wide (k' := 1) (n' := 6) (Nat.le_of_ble_eq_true rfl) (Nat.le_of_ble_eq_true rfl) ?_
    exact J_ireturn dX3_laneOf_30 rfl rfl rfl rfl rfl
  · replace h := ifp c2 h
    cases h
    exact J_throwS (pc := 11) (text := "there is no such car") rfl rfl rfl (by decide +kernel) w_451 w_27 (by decide) ats_RX3_168 dX3_laneOf_11 dX3_laneOf_14 dX3_laneOf_15 dX3_laneOf_17 dX3_laneOf_20 ⟨⟨Nat.le_of_ble_eq_true rfl, Nat.le_of_ble_eq_true rfl⟩, Nat.le_of_ble_eq_true rfl, Nat.le_of_ble_eq_true rfl⟩

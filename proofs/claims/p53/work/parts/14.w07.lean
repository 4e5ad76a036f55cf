/-! ===== walks of the methods, 7 ===== -/
set_option maxHeartbeats 4000000 in
set_option maxRecDepth 100000 in
theorem k_X3_laneOf_n {E : En} (a1 : Int32) (M : Wd) {r : Int32} (h : F_X3_laneOf_n a1 M = some r) : Con E mi_X3_laneOf_n [.ref 0, .int a1] M (.inl (some (.int r))) M := by
  unfold F_X3_laneOf_n at h
  refine Con.of (by decide) rfl (Nat.le_of_ble_eq_true rfl) (fun κ => ?_)
  show J κ E mi_X3_laneOf_n _ 0 0 [(0, .ref 0), (1, .int a1)] M 0 []
  refine J_aload_n (pc := 0) dX3_laneOf_0 rfl 0 rfl ?_
  refine get_0_0 (pc := 1) w_154 dX3_laneOf_1 ?_
  refine J_iload_n (pc := 4) dX3_laneOf_4 rfl 1 rfl ?_
  refine J_callV (g := mi_X1_hasCar) (ci := 1) (pc := 5) [.int a1] [] mv_X1_hasCar w_774 (k_X1_hasCar  a1 _) rfl (by decide) rfl rfl rfl ⟨⟨Nat.le_of_ble_eq_true rfl, Nat.le_of_ble_eq_true rfl⟩, Nat.le_of_ble_eq_true rfl, Nat.le_of_ble_eq_true rfl⟩ (Nat.le_of_ble_eq_true rfl) dX3_laneOf_5 (Jk_v rfl rfl fun hok1 => ?_)
  refine J_if_ne (pc := 8) (tgt := 21) dX3_laneOf_8 (by decide) (fun c2 => ?_) (fun c2 => ?_)
  · replace h := ifn c2 h
    refine J_aload_n (pc := 21) dX3_laneOf_21 rfl 0 rfl ?_
    refine get_0_0 (pc := 22) w_154 dX3_laneOf_22 ?_
    refine get_1_0 (pc := 25) w_49 dX3_laneOf_25 ?_
    refine J_iload_n (pc := 28) dX3_laneOf_28 rfl 1 rfl ?_
    obtain ⟨v3, e4, hk5, h⟩ := ldi_e h
    refine J_iald (c := 2) (N := 6) (pc := 29) ja_2 (Nat.le_of_ble_eq_true rfl) hk5 dX3_laneOf_29 ?_
    refine J_topi e4 ?_
    cases h
    exact J_ireturn dX3_laneOf_30 rfl rfl rfl rfl rfl
  · replace h := ifp c2 h
    cases h
set_option maxHeartbeats 4000000 in
set_option maxRecDepth 100000 in
theorem k_X3_placeOf {E : En} (a1 : Int32) (M : Wd) {r : Int32 ⊕ Nat} {M' : Wd} (h : F_X3_placeOf a1 M = some (r, M')) : Con E mi_X3_placeOf [.ref 0, .int a1] M (ocI r) M' := by
  unfold F_X3_placeOf at h
  refine Con.of (by decide) rfl (Nat.le_of_ble_eq_true rfl) (fun κ => ?_)
  show J κ E mi_X3_placeOf _ 0 0 [(0, .ref 0), (1, .int a1)] M 0 []
  refine J_aload_n (pc := 0) dX3_placeOf_0 rfl 0 rfl ?_
  refine get_0_0 (pc := 1) w_154 dX3_placeOf_1 ?_
  refine J_iload_n (pc := 4) dX3_placeOf_4 rfl 1 rfl ?_
  refine J_callV (g := mi_X1_hasCar) (ci := 1) (pc := 5) [.int a1] [] mv_X1_hasCar w_774 (k_X1_hasCar  a1 _) rfl (by decide) rfl rfl rfl ⟨⟨Nat.le_of_ble_eq_true rfl, Nat.le_of_ble_eq_true rfl⟩, Nat.le_of_ble_eq_true rfl, Nat.le_of_ble_eq_true rfl⟩ (Nat.le_of_ble_eq_true rfl) dX3_placeOf_5 (Jk_v rfl rfl fun hok1 => ?_)
  refine J_if_ne (pc := 8) (tgt := 21) dX3_placeOf_8 (by decide) (fun c2 => ?_) (fun c2 => ?_)
  · replace h := ifn c2 h
    refine J_aload_n (pc := 21) dX3_placeOf_21 rfl 0 rfl ?_
    refine get_0_0 (pc := 22) w_154 dX3_placeOf_22 ?_
    refine get_1_1 (pc := 25) w_52 dX3_placeOf_25 ?_
    refine J_iload_n (pc := 28) dX3_placeOf_28 rfl 1 rfl ?_
    obtain ⟨v3, e4, hk5, h⟩ := ldi_e h
    refine J_iald (c := 3) (N := 6) (pc := 29) ja_3 (Nat.le_of_ble_eq_true rfl) hk5 dX3_placeOf_29 ?_
    refine J_topi e4 ?_
    cases h
    refine J_wide (k' := 1) (n' := 6) (Nat.le_of_ble_eq_true rfl) (Nat.le_of_ble_eq_true rfl) ?_
    exact J_ireturn dX3_placeOf_30 rfl rfl rfl rfl rfl
  · replace h := ifp c2 h
    cases h
    exact J_throwS (pc := 11) (text := "there is no such car") rfl rfl rfl (by decide +kernel) w_451 w_27 (by decide) ats_RX3_168 dX3_placeOf_11 dX3_placeOf_14 dX3_placeOf_15 dX3_placeOf_17 dX3_placeOf_20 ⟨⟨Nat.le_of_ble_eq_true rfl, Nat.le_of_ble_eq_true rfl⟩, Nat.le_of_ble_eq_true rfl, Nat.le_of_ble_eq_true rfl⟩
set_option maxHeartbeats 4000000 in
set_option maxRecDepth 100000 in
theorem k_X3_placeOf_n {E : En} (a1 : Int32) (M : Wd) {r : Int32} (h : F_X3_placeOf_n a1 M = some r) : Con E mi_X3_placeOf_n [.ref 0, .int a1] M (.inl (some (.int r))) M := by
  unfold F_X3_placeOf_n at h
  refine Con.of (by decide) rfl (Nat.le_of_ble_eq_true rfl) (fun κ => ?_)
  show J κ E mi_X3_placeOf_n _ 0 0 [(0, .ref 0), (1, .int a1)] M 0 []
  refine J_aload_n (pc := 0) dX3_placeOf_0 rfl 0 rfl ?_
  refine get_0_0 (pc := 1) w_154 dX3_placeOf_1 ?_
  refine J_iload_n (pc := 4) dX3_placeOf_4 rfl 1 rfl ?_
  refine J_callV (g := mi_X1_hasCar) (ci := 1) (pc := 5) [.int a1] [] mv_X1_hasCar w_774 (k_X1_hasCar  a1 _) rfl (by decide) rfl rfl rfl ⟨⟨Nat.le_of_ble_eq_true rfl, Nat.le_of_ble_eq_true rfl⟩, Nat.le_of_ble_eq_true rfl, Nat.le_of_ble_eq_true rfl⟩ (Nat.le_of_ble_eq_true rfl) dX3_placeOf_5 (Jk_v rfl rfl fun hok1 => ?_)
  refine J_if_ne (pc := 8) (tgt := 21) dX3_placeOf_8 (by decide) (fun c2 => ?_) (fun c2 => ?_)
  · replace h := ifn c2 h
    refine J_aload_n (pc := 21) dX3_placeOf_21 rfl 0 rfl ?_
    refine get_0_0 (pc := 22) w_154 dX3_placeOf_22 ?_
    refine get_1_1 (pc := 25) w_52 dX3_placeOf_25 ?_
    refine J_iload_n (pc := 28) dX3_placeOf_28 rfl 1 rfl ?_
    obtain ⟨v3, e4, hk5, h⟩ := ldi_e h
    refine J_iald (c := 3) (N := 6) (pc := 29) ja_3 (Nat.le_of_ble_eq_true rfl) hk5 dX3_placeOf_29 ?_
    refine J_topi e4 ?_
    cases h
    exact J_ireturn dX3_placeOf_30 rfl rfl rfl rfl rfl
  · replace h := ifp c2 h
    cases h
set_option maxHeartbeats 4000000 in
set_option maxRecDepth 100000 in
theorem k_X3_lengthOf {E : En} (a1 : Int32) (M : Wd) {r : Int32 ⊕ Nat} {M' : Wd} (h : F_X3_lengthOf a1 M = some (r, M')) : Con E mi_X3_lengthOf [.ref 0, .int a1] M (ocI r) M' := by
  unfold F_X3_lengthOf at h
  refine Con.of (by decide) rfl (Nat.le_of_ble_eq_true rfl) (fun κ => ?_)
  show J κ E mi_X3_lengthOf _ 0 0 [(0, .ref 0), (1, .int a1)] M 0 []
  refine J_aload_n (pc := 0) dX3_lengthOf_0 rfl 0 rfl ?_
  refine get_0_0 (pc := 1) w_154 dX3_lengthOf_1 ?_
  refine J_iload_n (pc := 4) dX3_lengthOf_4 rfl 1 rfl ?_
  refine J_callV (g := mi_X1_hasCar) (ci := 1) (pc := 5) [.int a1] [] mv_X1_hasCar w_774 (k_X1_hasCar  a1 _) rfl (by decide) rfl rfl rfl ⟨⟨Nat.le_of_ble_eq_true rfl, Nat.le_of_ble_eq_true rfl⟩, Nat.le_of_ble_eq_true rfl, Nat.le_of_ble_eq_true rfl⟩ (Nat.le_of_ble_eq_true rfl) dX3_lengthOf_5 (Jk_v rfl rfl fun hok1 => ?_)
  refine J_if_ne (pc := 8) (tgt := 21) dX3_lengthOf_8 (by decide) (fun c2 => ?_) (fun c2 => ?_)
  · replace h := ifn c2 h
    refine J_aload_n (pc := 21) dX3_lengthOf_21 rfl 0 rfl ?_
    refine get_0_0 (pc := 22) w_154 dX3_lengthOf_22 ?_
    refine get_1_2 (pc := 25) w_55 dX3_lengthOf_25 ?_
    refine J_iload_n (pc := 28) dX3_lengthOf_28 rfl 1 rfl ?_
    obtain ⟨v3, e4, hk5, h⟩ := ldi_e h
    refine J_iald (c := 4) (N := 6) (pc := 29) ja_4 (Nat.le_of_ble_eq_true rfl) hk5 dX3_lengthOf_29 ?_
    refine J_topi e4 ?_
    cases h
    refine J_wide (k' := 1) (n' := 6) (Nat.le_of_ble_eq_true rfl) (Nat.le_of_ble_eq_true rfl) ?_
    exact J_ireturn dX3_lengthOf_30 rfl rfl rfl rfl rfl
  · replace h := ifp c2 h
    cases h
    exact J_throwS (pc := 11) (text := "there is no such car") rfl rfl rfl (by decide +kernel) w_451 w_27 (by decide) ats_RX3_168 dX3_lengthOf_11 dX3_lengthOf_14 dX3_lengthOf_15 dX3_lengthOf_17 dX3_lengthOf_20 ⟨⟨Nat.le_of_ble_eq_true rfl, Nat.le_of_ble_eq_true rfl⟩, Nat.le_of_ble_eq_true rfl, Nat.le_of_ble_eq_true rfl⟩
set_option maxHeartbeats 4000000 in
set_option maxRecDepth 100000 in
theorem k_X3_lengthOf_n {E : En} (a1 : Int32) (M : Wd) {r : Int32} (h : F_X3_lengthOf_n a1 M = some r) : Con E mi_X3_lengthOf_n [.ref 0, .int a1] M (.inl (some (.int r))) M := by
  unfold F_X3_lengthOf_n at h
  refine Con.of (by decide) rfl (Nat.le_of_ble_eq_true rfl) (fun κ => ?_)
  show J κ E mi_X3_lengthOf_n _ 0 0 [(0, .ref 0), (1, .int a1)] M 0 []
  refine J_aload_n (pc := 0) dX3_lengthOf_0 rfl 0 rfl ?_
  refine get_0_0 (pc := 1) w_154 dX3_lengthOf_1 ?_
  refine J_iload_n (pc := 4) dX3_lengthOf_4 rfl 1 rfl ?_
  refine J_callV (g := mi_X1_hasCar) (ci := 1) (pc := 5) [.int a1] [] mv_X1_hasCar w_774 (k_X1_hasCar  a1 _) rfl (by decide) rfl rfl rfl ⟨⟨Nat.le_of_ble_eq_true rfl, Nat.le_of_ble_eq_true rfl⟩, Nat.le_of_ble_eq_true rfl, Nat.le_of_ble_eq_true rfl⟩ (Nat.le_of_ble_eq_true rfl) dX3_lengthOf_5 (Jk_v rfl rfl fun hok1 => ?_)
  refine J_if_ne (pc := 8) (tgt := 21) dX3_lengthOf_8 (by decide) (fun c2 => ?_) (fun c2 => ?_)
  · replace h := ifn c2 h
    refine J_aload_n (pc := 21) dX3_lengthOf_21 rfl 0 rfl ?_
    refine get_0_0 (pc := 22) w_154 dX3_lengthOf_22 ?_
    refine get_1_2 (pc := 25) w_55 dX3_lengthOf_25 ?_
    refine J_iload_n (pc := 28) dX3_lengthOf_28 rfl 1 rfl ?_
    obtain ⟨v3, e4, hk5, h⟩ := ldi_e h
    refine J_iald (c := 4) (N := 6) (pc := 29) ja_4 (Nat.le_of_ble_eq_true rfl) hk5 dX3_lengthOf_29 ?_
    refine J_topi e4 ?_
    cases h
    exact J_ireturn dX3_lengthOf_30 rfl rfl rfl rfl rfl
  · replace h := ifp c2 h
    cases h
set_option maxHeartbeats 4000000 in
set_option maxRecDepth 100000 in
theorem k_X3_carOn {E : En} (a1 : Int32) (M : Wd) {r : Int32 ⊕ Nat} {M' : Wd} (h : F_X3_carOn a1 M = some (r, M')) : Con E mi_X3_carOn [.ref 0, .int a1] M (ocI r) M' := by
  unfold F_X3_carOn at h
  refine Con.of (by decide) rfl (Nat.le_of_ble_eq_true rfl) (fun κ => ?_)
  show J κ E mi_X3_carOn _ 0 0 [(0, .ref 0), (1, .int a1)] M 0 []
  refine J_iload_n (pc := 0) dX3_carOn_0 rfl 1 rfl ?_
  refine J_callS (g := mi_X3_isCell) (pc := 1) [.int a1] [] ms_X3_isCell w_797 (k_X3_isCell  a1 _) rfl rfl ⟨⟨Nat.le_of_ble_eq_true rfl, Nat.le_of_ble_eq_true rfl⟩, Nat.le_of_ble_eq_true rfl, Nat.le_of_ble_eq_true rfl⟩ (Nat.le_of_ble_eq_true rfl) dX3_carOn_1 (Jk_v rfl rfl fun hok1 => ?_)
  refine J_if_ne (pc := 4) (tgt := 17) dX3_carOn_4 (by decide) (fun c2 => ?_) (fun c2 => ?_)
  · replace h := ifn c2 h
    refine J_aload_n (pc := 17) dX3_carOn_17 rfl 0 rfl ?_
    refine get_0_0 (pc := 18) w_154 dX3_carOn_18 ?_
    refine J_iload_n (pc := 21) dX3_carOn_21 rfl 1 rfl ?_
    obtain ⟨v3, hc4, h⟩ := obind_e h
    refine J_callV (g := mi_X1_carAt) (ci := 1) (pc := 22) [.int a1] [] mv_X1_carAt w_385 (k_X1_carAt  a1 _ hc4) rfl (by decide) rfl rfl rfl ⟨⟨Nat.le_of_ble_eq_true rfl, Nat.le_of_ble_eq_true rfl⟩, Nat.le_of_ble_eq_true rfl, Nat.le_of_ble_eq_true rfl⟩ (Nat.le_of_ble_eq_true rfl) dX3_carOn_22 (Jk_v rfl rfl fun hok5 => ?_)
    cases h
    refine J_wide (k' := 1) (n' := 6) (Nat.le_of_ble_eq_true rfl) (Nat.le_of_ble_eq_true rfl) ?_
    exact J_ireturn dX3_carOn_25 rfl rfl rfl rfl rfl
  · replace h := ifp c2 h
    cases h
    exact J_throwS (pc := 7) (text := "there is no such cell") rfl rfl rfl (by decide +kernel) w_451 w_27 (by decide) ats_RX3_168 dX3_carOn_7 dX3_carOn_10 dX3_carOn_11 dX3_carOn_13 dX3_carOn_16 ⟨⟨Nat.le_of_ble_eq_true rfl, Nat.le_of_ble_eq_true rfl⟩, Nat.le_of_ble_eq_true rfl, Nat.le_of_ble_eq_true rfl⟩
set_option maxHeartbeats 4000000 in
set_option maxRecDepth 100000 in
theorem k_X3_carOn_n {E : En} (a1 : Int32) (M : Wd) {r : Int32} (h : F_X3_carOn_n a1 M = some r) : Con E mi_X3_carOn_n [.ref 0, .int a1] M (.inl (some (.int r))) M := by
  unfold F_X3_carOn_n at h
  refine Con.of (by decide) rfl (Nat.le_of_ble_eq_true rfl) (fun κ => ?_)
  show J κ E mi_X3_carOn_n _ 0 0 [(0, .ref 0), (1, .int a1)] M 0 []
  refine J_iload_n (pc := 0) dX3_carOn_0 rfl 1 rfl ?_
  refine J_callS (g := mi_X3_isCell) (pc := 1) [.int a1] [] ms_X3_isCell w_797 (k_X3_isCell  a1 _) rfl rfl ⟨⟨Nat.le_of_ble_eq_true rfl, Nat.le_of_ble_eq_true rfl⟩, Nat.le_of_ble_eq_true rfl, Nat.le_of_ble_eq_true rfl⟩ (Nat.le_of_ble_eq_true rfl) dX3_carOn_1 (Jk_v rfl rfl fun hok1 => ?_)
  refine J_if_ne (pc := 4) (tgt := 17) dX3_carOn_4 (by decide) (fun c2 => ?_) (fun c2 => ?_)
  · replace h := ifn c2 h
    refine J_aload_n (pc := 17) dX3_carOn_17 rfl 0 rfl ?_
    refine get_0_0 (pc := 18) w_154 dX3_carOn_18 ?_
    refine J_iload_n (pc := 21) dX3_carOn_21 rfl 1 rfl ?_
    obtain ⟨v3, hc4, h⟩ := obind_e h
    refine J_callV (g := mi_X1_carAt) (ci := 1) (pc := 22) [.int a1] [] mv_X1_carAt w_385 (k_X1_carAt  a1 _ hc4) rfl (by decide) rfl rfl rfl ⟨⟨Nat.le_of_ble_eq_true rfl, Nat.le_of_ble_eq_true rfl⟩, Nat.le_of_ble_eq_true rfl, Nat.le_of_ble_eq_true rfl⟩ (Nat.le_of_ble_eq_true rfl) dX3_carOn_22 (Jk_v rfl rfl fun hok5 => ?_)
    cases h
    exact J_ireturn dX3_carOn_25 rfl rfl rfl rfl rfl
  · replace h := ifp c2 h
    cases h
set_option maxHeartbeats 4000000 in
set_option maxRecDepth 100000 in
theorem k_X3_isWall {E : En} (a1 : Int32) (M : Wd) {r : Int32 ⊕ Nat} {M' : Wd} (h : F_X3_isWall a1 M = some (r, M')) : Con E mi_X3_isWall [.ref 0, .int a1] M (ocI r) M' := by
  unfold F_X3_isWall at h
  refine Con.of (by decide) rfl (Nat.le_of_ble_eq_true rfl) (fun κ => ?_)
  show J κ E mi_X3_isWall _ 0 0 [(0, .ref 0), (1, .int a1)] M 0 []
  refine J_iload_n (pc := 0) dX3_isWall_0 rfl 1 rfl ?_
  refine J_callS (g := mi_X3_isCell) (pc := 1) [.int a1] [] ms_X3_isCell w_797 (k_X3_isCell  a1 _) rfl rfl ⟨⟨Nat.le_of_ble_eq_true rfl, Nat.le_of_ble_eq_true rfl⟩, Nat.le_of_ble_eq_true rfl, Nat.le_of_ble_eq_true rfl⟩ (Nat.le_of_ble_eq_true rfl) dX3_isWall_1 (Jk_v rfl rfl fun hok1 => ?_)
  refine J_if_ne (pc := 4) (tgt := 17) dX3_isWall_4 (by decide) (fun c2 => ?_) (fun c2 => ?_)
  · replace h := ifn c2 h
    refine J_aload_n (pc := 17) dX3_isWall_17 rfl 0 rfl ?_
    refine get_0_0 (pc := 18) w_154 dX3_isWall_18 ?_
    refine J_iload_n (pc := 21) dX3_isWall_21 rfl 1 rfl ?_
    refine J_callV (g := mi_X1_hasWallAt) (ci := 1) (pc := 22) [.int a1] [] mv_X1_hasWallAt w_389 (k_X1_hasWallAt  a1 _) rfl (by decide) rfl rfl rfl ⟨⟨Nat.le_of_ble_eq_true rfl, Nat.le_of_ble_eq_true rfl⟩, Nat.le_of_ble_eq_true rfl, Nat.le_of_ble_eq_true rfl⟩ (Nat.le_of_ble_eq_true rfl) dX3_isWall_22 (Jk_v rfl rfl fun hok3 => ?_)
    cases h
    refine J_wide (k' := 1) (n' := 6) (Nat.le_of_ble_eq_true rfl) (Nat.le_of_ble_eq_true rfl) ?_
    exact J_zreturn dX3_isWall_25 rfl (okB_b hok3) rfl rfl rfl rfl
  · replace h := ifp c2 h
    cases h
    exact J_throwS (pc := 7) (text := "there is no such cell") rfl rfl rfl (by decide +kernel) w_451 w_27 (by decide) ats_RX3_168 dX3_isWall_7 dX3_isWall_10 dX3_isWall_11 dX3_isWall_13 dX3_isWall_16 ⟨⟨Nat.le_of_ble_eq_true rfl, Nat.le_of_ble_eq_true rfl⟩, Nat.le_of_ble_eq_true rfl, Nat.le_of_ble_eq_true rfl⟩
set_option maxHeartbeats 4000000 in
set_option maxRecDepth 100000 in
theorem k_X3_isWall_n {E : En} (a1 : Int32) (M : Wd) {r : Int32} (h : F_X3_isWall_n a1 M = some r) : Con E mi_X3_isWall_n [.ref 0, .int a1] M (.inl (some (.int r))) M := by
  unfold F_X3_isWall_n at h
  refine Con.of (by decide) rfl (Nat.le_of_ble_eq_true rfl) (fun κ => ?_)
  show J κ E mi_X3_isWall_n _ 0 0 [(0, .ref 0), (1, .int a1)] M 0 []
  refine J_iload_n (pc := 0) dX3_isWall_0 rfl 1 rfl ?_
  refine J_callS (g := mi_X3_isCell) (pc := 1) [.int a1] [] ms_X3_isCell w_797 (k_X3_isCell  a1 _) rfl rfl ⟨⟨Nat.le_of_ble_eq_true rfl, Nat.le_of_ble_eq_true rfl⟩, Nat.le_of_ble_eq_true rfl, Nat.le_of_ble_eq_true rfl⟩ (Nat.le_of_ble_eq_true rfl) dX3_isWall_1 (Jk_v rfl rfl fun hok1 => ?_)
  refine J_if_ne (pc := 4) (tgt := 17) dX3_isWall_4 (by decide) (fun c2 => ?_) (fun c2 => ?_)
  · replace h := ifn c2 h
    refine J_aload_n (pc := 17) dX3_isWall_17 rfl 0 rfl ?_
    refine get_0_0 (pc := 18) w_154 dX3_isWall_18 ?_
    refine J_iload_n (pc := 21) dX3_isWall_21 rfl 1 rfl ?_
    refine J_callV (g := mi_X1_hasWallAt) (ci := 1) (pc := 22) [.int a1] [] mv_X1_hasWallAt w_389 (k_X1_hasWallAt  a1 _) rfl (by decide) rfl rfl rfl ⟨⟨Nat.le_of_ble_eq_true rfl, Nat.le_of_ble_eq_true rfl⟩, Nat.le_of_ble_eq_true rfl, Nat.le_of_ble_eq_true rfl⟩ (Nat.le_of_ble_eq_true rfl) dX3_isWall_22 (Jk_v rfl rfl fun hok3 => ?_)
    cases h
    exact J_zreturn dX3_isWall_25 rfl (okB_b hok3) rfl rfl rfl rfl
  · replace h := ifp c2 h
    cases h
set_option maxHeartbeats 4000000 in
set_option maxRecDepth 100000 in
theorem k_X3_freeCells {E : En} (M : Wd) {r : Int32} (h : F_X3_freeCells M = some r) : Con E mi_X3_freeCells [.ref 0] M (.inl (some (.int r))) M := by
  unfold F_X3_freeCells at h
  refine Con.of (by decide) rfl (Nat.le_of_ble_eq_true rfl) (fun κ => ?_)
  show J κ E mi_X3_freeCells _ 0 0 [(0, .ref 0)] M 0 []
  refine J_bipush (v := (25 : Int32)) (pc := 0) dX3_freeCells_0 (by decide) ?_
  refine J_aload_n (pc := 2) dX3_freeCells_2 rfl 0 rfl ?_
  refine get_0_0 (pc := 3) w_154 dX3_freeCells_3 ?_
  obtain ⟨v1, hc2, h⟩ := obind_e h
  refine J_callV (g := mi_X1_takenCells) (ci := 1) (pc := 6) [] [.int (25 : Int32)] mv_X1_takenCells w_203 (k_X1_takenCells  _ hc2) rfl (by decide) rfl rfl rfl ⟨⟨Nat.le_of_ble_eq_true rfl, Nat.le_of_ble_eq_true rfl⟩, Nat.le_of_ble_eq_true rfl, Nat.le_of_ble_eq_true rfl⟩ (Nat.le_of_ble_eq_true rfl) dX3_freeCells_6 (Jk_v rfl rfl fun hok3 => ?_)
  refine J_callS (g := mi_J6_bitCount_0f7a4) (pc := 9) [.int v1] [.int (25 : Int32)] ms_J6_bitCount_0f7a4 w_193 (k_J6_bitCount_0f7a4  v1 _) rfl rfl ⟨⟨Nat.le_of_ble_eq_true rfl, Nat.le_of_ble_eq_true rfl⟩, Nat.le_of_ble_eq_true rfl, Nat.le_of_ble_eq_true rfl⟩ (Nat.le_of_ble_eq_true rfl) dX3_freeCells_9 (Jk_v rfl rfl fun hok4 => ?_)
  refine J_isub (pc := 12) dX3_freeCells_12 ?_
  cases h
  exact J_ireturn dX3_freeCells_13 rfl rfl rfl rfl rfl
set_option maxHeartbeats 4000000 in
set_option maxRecDepth 100000 in
theorem k_X3_isOut {E : En} (M : Wd) : Con E mi_X3_isOut [.ref 0] M (.inl (some (.int (F_X3_isOut M)))) M := by
  obtain ⟨r, h⟩ : ∃ r, F_X3_isOut M = r := ⟨_, rfl⟩
  rw [h]
  unfold F_X3_isOut at h
  refine Con.of (by decide) rfl (Nat.le_of_ble_eq_true rfl) (fun κ => ?_)
  show J κ E mi_X3_isOut _ 0 0 [(0, .ref 0)] M 0 []
  refine J_aload_n (pc := 0) dX3_isOut_0 rfl 0 rfl ?_
  refine get_0_0 (pc := 1) w_154 dX3_isOut_1 ?_
  refine J_callV (g := mi_X1_isRedOut) (ci := 1) (pc := 4) [] [] mv_X1_isRedOut w_215 (k_X1_isRedOut  _) rfl (by decide) rfl rfl rfl ⟨⟨Nat.le_of_ble_eq_true rfl, Nat.le_of_ble_eq_true rfl⟩, Nat.le_of_ble_eq_true rfl, Nat.le_of_ble_eq_true rfl⟩ (Nat.le_of_ble_eq_true rfl) dX3_isOut_4 (Jk_v rfl rfl fun hok1 => ?_)
  subst h
  exact J_zreturn dX3_isOut_7 rfl (okB_b hok1) rfl rfl rfl rfl
set_option maxHeartbeats 4000000 in
set_option maxRecDepth 100000 in
theorem k_X3_room {E : En} (a1 : Int32) (a2 : Int32) (M : Wd) {r : Int32 ⊕ Nat} {M' : Wd} (h : F_X3_room a1 a2 M = some (r, M')) : Con E mi_X3_room [.ref 0, .int a1, .int a2] M (ocI r) M' := by
  unfold F_X3_room at h
  refine Con.of (by decide) rfl (Nat.le_of_ble_eq_true rfl) (fun κ => ?_)
  show J κ E mi_X3_room _ 0 0 [(0, .ref 0), (1, .int a1), (2, .int a2)] M 0 []
  refine J_aload_n (pc := 0) dX3_room_0 rfl 0 rfl ?_
  refine get_0_0 (pc := 1) w_154 dX3_room_1 ?_
  refine J_iload_n (pc := 4) dX3_room_4 rfl 1 rfl ?_
  refine J_callV (g := mi_X1_hasCar) (ci := 1) (pc := 5) [.int a1] [] mv_X1_hasCar w_774 (k_X1_hasCar  a1 _) rfl (by decide) rfl rfl rfl ⟨⟨Nat.le_of_ble_eq_true rfl, Nat.le_of_ble_eq_true rfl⟩, Nat.le_of_ble_eq_true rfl, Nat.le_of_ble_eq_true rfl⟩ (Nat.le_of_ble_eq_true rfl) dX3_room_5 (Jk_v rfl rfl fun hok1 => ?_)
  refine J_if_ne (pc := 8) (tgt := 21) dX3_room_8 (by decide) (fun c2 => ?_) (fun c2 => ?_)
  · replace h := ifn c2 h
    refine J_aload_n (pc := 21) dX3_room_21 rfl 0 rfl ?_
    refine get_0_0 (pc := 22) w_154 dX3_room_22 ?_
    refine J_iload_n (pc := 25) dX3_room_25 rfl 1 rfl ?_
    refine J_iload_n (pc := 26) dX3_room_26 rfl 2 rfl ?_
    obtain ⟨v3, e4, h⟩ := bnd_e h
    refine J_join [] M 35 [.int v3, .int a1, .ref 1] ?_ (fun hJ => ?_)
    · obtain ⟨v6, hc7, h⟩ := obind_e h
      refine J_callV (g := mi_X1_roomOf) (ci := 1) (pc := 35) [.int a1, .int v3] [] mv_X1_roomOf w_223 (k_X1_roomOf  a1 v3 _ hc7) rfl (by decide) rfl rfl rfl ⟨⟨Nat.le_of_ble_eq_true rfl, Nat.le_of_ble_eq_true rfl⟩, Nat.le_of_ble_eq_true rfl, Nat.le_of_ble_eq_true rfl⟩ (Nat.le_of_ble_eq_true rfl) dX3_room_35 (Jk_v rfl rfl fun hok8 => ?_)
      cases h
      refine J_wide (k' := 1) (n' := 6) (Nat.le_of_ble_eq_true rfl) (Nat.le_of_ble_eq_true rfl) ?_
      exact J_ireturn dX3_room_38 rfl rfl rfl rfl rfl
    · refine J_if_eq (pc := 27) (tgt := 34) dX3_room_27 (by decide) (fun c5 => ?_) (fun c5 => ?_)
      · refine J_iconst (v := (-1 : Int32)) (pc := 34) dX3_room_34 (by decide) ?_
        refine J_sub [] rfl ?_
        refine J_topi (y := v3) (by rw [e4, if_pos c5]) ?_
        exact hJ
      · refine J_iconst (v := (1 : Int32)) (pc := 30) dX3_room_30 (by decide) ?_
        refine J_goto (pc := 31) (tgt := 35) dX3_room_31 (by decide) ?_
        refine J_sub [] rfl ?_
        refine J_topi (y := v3) (by rw [e4, if_neg c5]) ?_
        exact hJ
  · replace h := ifp c2 h
    cases h
    exact J_throwS (pc := 11) (text := "there is no such car") rfl rfl rfl (by decide +kernel) w_451 w_27 (by decide) ats_RX3_168 dX3_room_11 dX3_room_14 dX3_room_15 dX3_room_17 dX3_room_20 ⟨⟨Nat.le_of_ble_eq_true rfl, Nat.le_of_ble_eq_true rfl⟩, Nat.le_of_ble_eq_true rfl, Nat.le_of_ble_eq_true rfl⟩
set_option maxHeartbeats 4000000 in
set_option maxRecDepth 100000 in
theorem k_X3_room_n {E : En} (a1 : Int32) (a2 : Int32) (M : Wd) {r : Int32} (h : F_X3_room_n a1 a2 M = some r) : Con E mi_X3_room_n [.ref 0, .int a1, .int a2] M (.inl (some (.int r))) M := by
  unfold F_X3_room_n at h
  refine Con.of (by decide) rfl (Nat.le_of_ble_eq_true rfl) (fun κ => ?_)
  show J κ E mi_X3_room_n _ 0 0 [(0, .ref 0), (1, .int a1), (2, .int a2)] M 0 []
  refine J_aload_n (pc := 0) dX3_room_0 rfl 0 rfl ?_
  refine get_0_0 (pc := 1) w_154 dX3_room_1 ?_
  refine J_iload_n (pc := 4) dX3_room_4 rfl 1 rfl ?_
  refine J_callV (g := mi_X1_hasCar) (ci := 1) (pc := 5) [.int a1] [] mv_X1_hasCar w_774 (k_X1_hasCar  a1 _) rfl (by decide) rfl rfl rfl ⟨⟨Nat.le_of_ble_eq_true rfl, Nat.le_of_ble_eq_true rfl⟩, Nat.le_of_ble_eq_true rfl, Nat.le_of_ble_eq_true rfl⟩ (Nat.le_of_ble_eq_true rfl) dX3_room_5 (Jk_v rfl rfl fun hok1 => ?_)
  refine J_if_ne (pc := 8) (tgt := 21) dX3_room_8 (by decide) (fun c2 => ?_) (fun c2 => ?_)
  · replace h := ifn c2 h
    refine J_aload_n (pc := 21) dX3_room_21 rfl 0 rfl ?_
    refine get_0_0 (pc := 22) w_154 dX3_room_22 ?_
    refine J_iload_n (pc := 25) dX3_room_25 rfl 1 rfl ?_
    refine J_iload_n (pc := 26) dX3_room_26 rfl 2 rfl ?_
    obtain ⟨v3, e4, h⟩ := bnd_e h
    refine J_join [] M 35 [.int v3, .int a1, .ref 1] ?_ (fun hJ => ?_)
    · obtain ⟨v6, hc7, h⟩ := obind_e h
      refine J_callV (g := mi_X1_roomOf) (ci := 1) (pc := 35) [.int a1, .int v3] [] mv_X1_roomOf w_223 (k_X1_roomOf  a1 v3 _ hc7) rfl (by decide) rfl rfl rfl ⟨⟨Nat.le_of_ble_eq_true rfl, Nat.le_of_ble_eq_true rfl⟩, Nat.le_of_ble_eq_true rfl, Nat.le_of_ble_eq_true rfl⟩ (Nat.le_of_ble_eq_true rfl) dX3_room_35 (Jk_v rfl rfl fun hok8 => ?_)
      cases h
      exact J_ireturn dX3_room_38 rfl rfl rfl rfl rfl
    · refine J_if_eq (pc := 27) (tgt := 34) dX3_room_27 (by decide) (fun c5 => ?_) (fun c5 => ?_)
      · refine J_iconst (v := (-1 : Int32)) (pc := 34) dX3_room_34 (by decide) ?_
        refine J_sub [] rfl ?_
        refine J_topi (y := v3) (by rw [e4, if_pos c5]) ?_
        exact hJ
      · refine J_iconst (v := (1 : Int32)) (pc := 30) dX3_room_30 (by decide) ?_
        refine J_goto (pc := 31) (tgt := 35) dX3_room_31 (by decide) ?_
        refine J_sub [] rfl ?_
        refine J_topi (y := v3) (by rw [e4, if_neg c5]) ?_
        exact hJ
  · replace h := ifp c2 h
    cases h
set_option maxHeartbeats 4000000 in
set_option maxRecDepth 100000 in
theorem kL_X3_possibleSlides_L4 {κ : Kx} {E : En} {Q : State → Prop} {ρ : Type} {r : ρ} (M : Wd) (K43 : Int32 → Option ρ) (hK43 : ∀ (x1 : Int32), K43 x1 = some r → J κ E mi_X3_possibleSlides Q 0 0 [(1, .int x1)] M 43 []) : ∀ (m : Nat) (x1 : Int32) (x2 : Int32), F_X3_possibleSlides_L4 M K43 m x1 x2 = some r → J κ E mi_X3_possibleSlides Q 0 0 [(0, .ref 0), (1, .int x1), (2, .int x2)] M 4 [] := by
  intro m
  induction m with
  | zero => intro x1 x2 h; exact (nomatch (show (none : Option ρ) = some r from h))
  | succ m ih =>
    intro x1 x2 h
    unfold F_X3_possibleSlides_L4 at h
    refine J_iload_n (pc := 4) dX3_possibleSlides_4 rfl 2 rfl ?_
    refine J_aload_n (pc := 5) dX3_possibleSlides_5 rfl 0 rfl ?_
    refine get_0_0 (pc := 6) w_154 dX3_possibleSlides_6 ?_
    refine get_1_5 (pc := 9) w_61 dX3_possibleSlides_9 ?_
    refine J_icmp_ge (pc := 12) (tgt := 43) dX3_possibleSlides_12 (by decide) (fun c1 => ?_) (fun c1 => ?_)
    · replace h := ifp c1 h
      refine J_sub [1] rfl ?_
      exact hK43 _ h
    · replace h := ifn c1 h
      refine J_iload_n (pc := 15) dX3_possibleSlides_15 rfl 1 rfl ?_
      refine J_aload_n (pc := 16) dX3_possibleSlides_16 rfl 0 rfl ?_
      refine get_0_0 (pc := 17) w_154 dX3_possibleSlides_17 ?_
      refine J_iload_n (pc := 20) dX3_possibleSlides_20 rfl 2 rfl ?_
      refine J_iconst (v := (1 : Int32)) (pc := 21) dX3_possibleSlides_21 (by decide) ?_
      obtain ⟨v2, hc3, h⟩ := obind_e h
      refine J_callV (g := mi_X1_roomOf) (ci := 1) (pc := 22) [.int x2, .int (1 : Int32)] [.int x1] mv_X1_roomOf w_223 (k_X1_roomOf  x2 (1 : Int32) _ hc3) rfl (by decide) rfl rfl rfl ⟨⟨Nat.le_of_ble_eq_true rfl, Nat.le_of_ble_eq_true rfl⟩, Nat.le_of_ble_eq_true rfl, Nat.le_of_ble_eq_true rfl⟩ (Nat.le_of_ble_eq_true rfl) dX3_possibleSlides_22 (Jk_v rfl rfl fun hok4 => ?_)
      refine J_aload_n (pc := 25) dX3_possibleSlides_25 rfl 0 rfl ?_
      refine get_0_0 (pc := 26) w_154 dX3_possibleSlides_26 ?_
      refine J_iload_n (pc := 29) dX3_possibleSlides_29 rfl 2 rfl ?_
      refine J_iconst (v := (-1 : Int32)) (pc := 30) dX3_possibleSlides_30 (by decide) ?_
      obtain ⟨v5, hc6, h⟩ := obind_e h
      refine J_callV (g := mi_X1_roomOf) (ci := 1) (pc := 31) [.int x2, .int (-1 : Int32)] [.int v2, .int x1] mv_X1_roomOf w_223 (k_X1_roomOf  x2 (-1 : Int32) _ hc6) rfl (by decide) rfl rfl rfl ⟨⟨Nat.le_of_ble_eq_true rfl, Nat.le_of_ble_eq_true rfl⟩, Nat.le_of_ble_eq_true rfl, Nat.le_of_ble_eq_true rfl⟩ (Nat.le_of_ble_eq_true rfl) dX3_possibleSlides_31 (Jk_v rfl rfl fun hok7 => ?_)
      refine J_iadd (pc := 34) dX3_possibleSlides_34 ?_
      refine J_iadd (pc := 35) dX3_possibleSlides_35 ?_
      obtain ⟨v8, e9, h⟩ := bnd_e h
      refine J_topi e9 ?_
      refine J_istore_n (pc := 36) dX3_possibleSlides_36 rfl (Nat.le_of_ble_eq_true rfl) [1, 0, 2] rfl ?_
      obtain ⟨v10, e11, h⟩ := bnd_e h
      refine J_iinc (v := v10) (pc := 37) dX3_possibleSlides_37 2 rfl (by rw [e11]; rfl) (Nat.le_of_ble_eq_true rfl) [1, 2, 0] rfl ?_
      refine J_LS [(0, .ref 0), (1, .int v8), (2, .int v10)] [] rfl rfl ?_
      refine J_goto (pc := 40) (tgt := 4) dX3_possibleSlides_40 (by decide) ?_
      exact ih _ _ h
set_option maxHeartbeats 4000000 in
set_option maxRecDepth 100000 in
theorem k_X3_possibleSlides {E : En} (M : Wd) {r : Int32} (h : F_X3_possibleSlides M = some r) : Con E mi_X3_possibleSlides [.ref 0] M (.inl (some (.int r))) M := by
  unfold F_X3_possibleSlides at h
  refine Con.of (by decide) rfl (Nat.le_of_ble_eq_true rfl) (fun κ => ?_)
  show J κ E mi_X3_possibleSlides _ 0 0 [(0, .ref 0)] M 0 []
  refine J_iconst (v := (0 : Int32)) (pc := 0) dX3_possibleSlides_0 (by decide) ?_
  refine J_istore_n (pc := 1) dX3_possibleSlides_1 rfl (Nat.le_of_ble_eq_true rfl) [1, 0] rfl ?_
  refine J_iconst (v := (0 : Int32)) (pc := 2) dX3_possibleSlides_2 (by decide) ?_
  refine J_istore_n (pc := 3) dX3_possibleSlides_3 rfl (Nat.le_of_ble_eq_true rfl) [1, 2, 0] rfl ?_
  refine J_LS [(0, .ref 0), (1, .int (0 : Int32)), (2, .int (0 : Int32))] [] rfl rfl ?_
  refine kL_X3_possibleSlides_L4 _ _ (fun v12 h => ?_) fuelN _ _ h
  refine J_iload_n (pc := 43) dX3_possibleSlides_43 rfl 0 rfl ?_
  cases h
  exact J_ireturn dX3_possibleSlides_44 rfl rfl rfl rfl rfl
set_option maxHeartbeats 4000000 in
set_option maxRecDepth 100000 in
theorem k_X3_logged {E : En} (M : Wd) : Con E mi_X3_logged [.ref 0] M (.inl (some (.int (F_X3_logged M)))) M := by
  obtain ⟨r, h⟩ : ∃ r, F_X3_logged M = r := ⟨_, rfl⟩
  rw [h]
  unfold F_X3_logged at h
  refine Con.of (by decide) rfl (Nat.le_of_ble_eq_true rfl) (fun κ => ?_)
  show J κ E mi_X3_logged _ 0 0 [(0, .ref 0)] M 0 []
  refine J_aload_n (pc := 0) dX3_logged_0 rfl 0 rfl ?_
  refine get_0_0 (pc := 1) w_154 dX3_logged_1 ?_
  refine get_1_7 (pc := 4) w_65 dX3_logged_4 ?_
  subst h
  exact J_ireturn dX3_logged_7 rfl rfl rfl rfl rfl
set_option maxHeartbeats 4000000 in
set_option maxRecDepth 100000 in
theorem k_X3_carOfSlide {E : En} (a1 : Int32) (M : Wd) {r : Int32 ⊕ Nat} {M' : Wd} (h : F_X3_carOfSlide a1 M = some (r, M')) : Con E mi_X3_carOfSlide [.ref 0, .int a1] M (ocI r) M' := by
  unfold F_X3_carOfSlide at h
  refine Con.of (by decide) rfl (Nat.le_of_ble_eq_true rfl) (fun κ => ?_)
  show J κ E mi_X3_carOfSlide _ 0 0 [(0, .ref 0), (1, .int a1)] M 0 []
  refine J_aload_n (pc := 0) dX3_carOfSlide_0 rfl 0 rfl ?_
  refine get_0_0 (pc := 1) w_154 dX3_carOfSlide_1 ?_
  refine J_iload_n (pc := 4) dX3_carOfSlide_4 rfl 1 rfl ?_
  refine J_callV (g := mi_X1_hasSlide) (ci := 1) (pc := 5) [.int a1] [] mv_X1_hasSlide w_806 (k_X1_hasSlide  a1 _) rfl (by decide) rfl rfl rfl ⟨⟨Nat.le_of_ble_eq_true rfl, Nat.le_of_ble_eq_true rfl⟩, Nat.le_of_ble_eq_true rfl, Nat.le_of_ble_eq_true rfl⟩ (Nat.le_of_ble_eq_true rfl) dX3_carOfSlide_5 (Jk_v rfl rfl fun hok1 => ?_)
  refine J_if_ne (pc := 8) (tgt := 21) dX3_carOfSlide_8 (by decide) (fun c2 => ?_) (fun c2 => ?_)
  · replace h := ifn c2 h
    refine J_aload_n (pc := 21) dX3_carOfSlide_21 rfl 0 rfl ?_
    refine get_0_0 (pc := 22) w_154 dX3_carOfSlide_22 ?_
    refine get_1_3 (pc := 25) w_57 dX3_carOfSlide_25 ?_
    refine J_iload_n (pc := 28) dX3_carOfSlide_28 rfl 1 rfl ?_
    obtain ⟨v3, e4, hk5, h⟩ := ldi_e h
    refine J_iald (c := 5) (N := 60) (pc := 29) ja_5 (Nat.le_of_ble_eq_true rfl) hk5 dX3_carOfSlide_29 ?_
    refine J_topi e4 ?_
    cases h
    refine J_wide (k' := 1) (n' := 6) (Nat.le_of_ble_eq_true rfl) (Nat.le_of_ble_eq_true rfl) ?_
    exact J_ireturn dX3_carOfSlide_30 rfl rfl rfl rfl rfl
  · replace h := ifp c2 h
    cases h
    exact J_throwS (pc := 11) (text := "there is no such slide") rfl rfl rfl (by decide +kernel) w_451 w_27 (by decide) ats_RX3_168 dX3_carOfSlide_11 dX3_carOfSlide_14 dX3_carOfSlide_15 dX3_carOfSlide_17 dX3_carOfSlide_20 ⟨⟨Nat.le_of_ble_eq_true rfl, Nat.le_of_ble_eq_true rfl⟩, Nat.le_of_ble_eq_true rfl, Nat.le_of_ble_eq_true rfl⟩
set_option maxHeartbeats 4000000 in
set_option maxRecDepth 100000 in
theorem k_X3_carOfSlide_n {E : En} (a1 : Int32) (M : Wd) {r : Int32} (h : F_X3_carOfSlide_n a1 M = some r) : Con E mi_X3_carOfSlide_n [.ref 0, .int a1] M (.inl (some (.int r))) M := by
  unfold F_X3_carOfSlide_n at h
  refine Con.of (by decide) rfl (Nat.le_of_ble_eq_true rfl) (fun κ => ?_)
  show J κ E mi_X3_carOfSlide_n _ 0 0 [(0, .ref 0), (1, .int a1)] M 0 []
  refine J_aload_n (pc := 0) dX3_carOfSlide_0 rfl 0 rfl ?_
  refine get_0_0 (pc := 1) w_154 dX3_carOfSlide_1 ?_
  refine J_iload_n (pc := 4) dX3_carOfSlide_4 rfl 1 rfl ?_
  refine J_callV (g := mi_X1_hasSlide) (ci := 1) (pc := 5) [.int a1] [] mv_X1_hasSlide w_806 (k_X1_hasSlide  a1 _) rfl (by decide) rfl rfl rfl ⟨⟨Nat.le_of_ble_eq_true rfl, Nat.le_of_ble_eq_true rfl⟩, Nat.le_of_ble_eq_true rfl, Nat.le_of_ble_eq_true rfl⟩ (Nat.le_of_ble_eq_true rfl) dX3_carOfSlide_5 (Jk_v rfl rfl fun hok1 => ?_)
  refine J_if_ne (pc := 8) (tgt := 21) dX3_carOfSlide_8 (by decide) (fun c2 => ?_) (fun c2 => ?_)
  · replace h := ifn c2 h
    refine J_aload_n (pc := 21) dX3_carOfSlide_21 rfl 0 rfl ?_
    refine get_0_0 (pc := 22) w_154 dX3_carOfSlide_22 ?_
    refine get_1_3 (pc := 25) w_57 dX3_carOfSlide_25 ?_
    refine J_iload_n (pc := 28) dX3_carOfSlide_28 rfl 1 rfl ?_
    obtain ⟨v3, e4, hk5, h⟩ := ldi_e h
    refine J_iald (c := 5) (N := 60) (pc := 29) ja_5 (Nat.le_of_ble_eq_true rfl) hk5 dX3_carOfSlide_29 ?_
    refine J_topi e4 ?_
    cases h
    exact J_ireturn dX3_carOfSlide_30 rfl rfl rfl rfl rfl
  · replace h := ifp c2 h
    cases h
set_option maxHeartbeats 4000000 in
set_option maxRecDepth 100000 in
theorem k_X3_changeBySlide {E : En} (a1 : Int32) (M : Wd) {r : Int32 ⊕ Nat} {M' : Wd} (h : F_X3_changeBySlide a1 M = some (r, M')) : Con E mi_X3_changeBySlide [.ref 0, .int a1] M (ocI r) M' := by
  unfold F_X3_changeBySlide at h
  refine Con.of (by decide) rfl (Nat.le_of_ble_eq_true rfl) (fun κ => ?_)
  show J κ E mi_X3_changeBySlide _ 0 0 [(0, .ref 0), (1, .int a1)] M 0 []
  refine J_aload_n (pc := 0) dX3_changeBySlide_0 rfl 0 rfl ?_
  refine get_0_0 (pc := 1) w_154 dX3_changeBySlide_1 ?_
  refine J_iload_n (pc := 4) dX3_changeBySlide_4 rfl 1 rfl ?_
  refine J_callV (g := mi_X1_hasSlide) (ci := 1) (pc := 5) [.int a1] [] mv_X1_hasSlide w_806 (k_X1_hasSlide  a1 _) rfl (by decide) rfl rfl rfl ⟨⟨Nat.le_of_ble_eq_true rfl, Nat.le_of_ble_eq_true rfl⟩, Nat.le_of_ble_eq_true rfl, Nat.le_of_ble_eq_true rfl⟩ (Nat.le_of_ble_eq_true rfl) dX3_changeBySlide_5 (Jk_v rfl rfl fun hok1 => ?_)
  refine J_if_ne (pc := 8) (tgt := 21) dX3_changeBySlide_8 (by decide) (fun c2 => ?_) (fun c2 => ?_)
  · replace h := ifn c2 h
    refine J_aload_n (pc := 21) dX3_changeBySlide_21 rfl 0 rfl ?_
    refine get_0_0 (pc := 22) w_154 dX3_changeBySlide_22 ?_
    refine get_1_4 (pc := 25) w_59 dX3_changeBySlide_25 ?_
    refine J_iload_n (pc := 28) dX3_changeBySlide_28 rfl 1 rfl ?_
    obtain ⟨v3, e4, hk5, h⟩ := ldi_e h
    refine J_iald (c := 6) (N := 60) (pc := 29) ja_6 (Nat.le_of_ble_eq_true rfl) hk5 dX3_changeBySlide_29 ?_
    refine J_topi e4 ?_
    cases h
    refine J_wide (k' := 1) (n' := 6) (Nat.le_of_ble_eq_true rfl) (Nat.le_of_ble_eq_true rfl) ?_
    exact J_ireturn dX3_changeBySlide_30 rfl rfl rfl rfl rfl
  · replace h := ifp c2 h
    cases h
    exact J_throwS (pc := 11) (text := "there is no such slide") rfl rfl rfl (by decide +kernel) w_451 w_27 (by decide) ats_RX3_168 dX3_changeBySlide_11 dX3_changeBySlide_14 dX3_changeBySlide_15 dX3_changeBySlide_17 dX3_changeBySlide_20 ⟨⟨Nat.le_of_ble_eq_true rfl, Nat.le_of_ble_eq_true rfl⟩, Nat.le_of_ble_eq_true rfl, Nat.le_of_ble_eq_true rfl⟩
set_option maxHeartbeats 4000000 in
set_option maxRecDepth 100000 in
theorem k_X3_changeBySlide_n {E : En} (a1 : Int32) (M : Wd) {r : Int32} (h : F_X3_changeBySlide_n a1 M = some r) : Con E mi_X3_changeBySlide_n [.ref 0, .int a1] M (.inl (some (.int r))) M := by
  unfold F_X3_changeBySlide_n at h
  refine Con.of (by decide) rfl (Nat.le_of_ble_eq_true rfl) (fun κ => ?_)
  show J κ E mi_X3_changeBySlide_n _ 0 0 [(0, .ref 0), (1, .int a1)] M 0 []
  refine J_aload_n (pc := 0) dX3_changeBySlide_0 rfl 0 rfl ?_
  refine get_0_0 (pc := 1) w_154 dX3_changeBySlide_1 ?_
  refine J_iload_n (pc := 4) dX3_changeBySlide_4 rfl 1 rfl ?_
  refine J_callV (g := mi_X1_hasSlide) (ci := 1) (pc := 5) [.int a1] [] mv_X1_hasSlide w_806 (k_X1_hasSlide  a1 _) rfl (by decide) rfl rfl rfl ⟨⟨Nat.le_of_ble_eq_true rfl, Nat.le_of_ble_eq_true rfl⟩, Nat.le_of_ble_eq_true rfl, Nat.le_of_ble_eq_true rfl⟩ (Nat.le_of_ble_eq_true rfl) dX3_changeBySlide_5 (Jk_v rfl rfl fun hok1 => ?_)
  refine J_if_ne (pc := 8) (tgt := 21) dX3_changeBySlide_8 (by decide) (fun c2 => ?_) (fun c2 => ?_)
  · replace h := ifn c2 h
    refine J_aload_n (pc := 21) dX3_changeBySlide_21 rfl 0 rfl ?_
    refine get_0_0 (pc := 22) w_154 dX3_changeBySlide_22 ?_
    refine get_1_4 (pc := 25) w_59 dX3_changeBySlide_25 ?_
    refine J_iload_n (pc := 28) dX3_changeBySlide_28 rfl 1 rfl ?_
    obtain ⟨v3, e4, hk5, h⟩ := ldi_e h
    refine J_iald (c := 6) (N := 60) (pc := 29) ja_6 (Nat.le_of_ble_eq_true rfl) hk5 dX3_changeBySlide_29 ?_
    refine J_topi e4 ?_
    cases h
    exact J_ireturn dX3_changeBySlide_30 rfl rfl rfl rfl rfl
  · replace h := ifp c2 h
    cases h
set_option maxHeartbeats 4000000 in
set_option maxRecDepth 100000 in
theorem k_X3_stepsOf {E : En} (a1 : Int32) (M : Wd) {r : Int32 ⊕ Nat} {M' : Wd} (h : F_X3_stepsOf a1 M = some (r, M')) : Con E mi_X3_stepsOf [.ref 0, .int a1] M (ocI r) M' := by
  unfold F_X3_stepsOf at h
  refine Con.of (by decide) rfl (Nat.le_of_ble_eq_true rfl) (fun κ => ?_)
  show J κ E mi_X3_stepsOf _ 0 0 [(0, .ref 0), (1, .int a1)] M 0 []
  refine J_aload_n (pc := 0) dX3_stepsOf_0 rfl 0 rfl ?_
  refine get_0_0 (pc := 1) w_154 dX3_stepsOf_1 ?_
  refine J_iload_n (pc := 4) dX3_stepsOf_4 rfl 1 rfl ?_
  refine J_callV (g := mi_X1_hasCar) (ci := 1) (pc := 5) [.int a1] [] mv_X1_hasCar w_774 (k_X1_hasCar  a1 _) rfl (by decide) rfl rfl rfl ⟨⟨Nat.le_of_ble_eq_true rfl, Nat.le_of_ble_eq_true rfl⟩, Nat.le_of_ble_eq_true rfl, Nat.le_of_ble_eq_true rfl⟩ (Nat.le_of_ble_eq_true rfl) dX3_stepsOf_5 (Jk_v rfl rfl fun hok1 => ?_)
  refine J_if_ne (pc := 8) (tgt := 21) dX3_stepsOf_8 (by decide) (fun c2 => ?_) (fun c2 => ?_)
  · replace h := ifn c2 h
    refine J_aload_n (pc := 21) dX3_stepsOf_21 rfl 0 rfl ?_
    refine get_0_0 (pc := 22) w_154 dX3_stepsOf_22 ?_
    refine J_iload_n (pc := 25) dX3_stepsOf_25 rfl 1 rfl ?_
    obtain ⟨v3, hc4, h⟩ := obind_e h
    refine J_callV (g := mi_X1_loggedSteps) (ci := 1) (pc := 26) [.int a1] [] mv_X1_loggedSteps w_397 (k_X1_loggedSteps  a1 _ hc4) rfl (by decide) rfl rfl rfl ⟨⟨Nat.le_of_ble_eq_true rfl, Nat.le_of_ble_eq_true rfl⟩, Nat.le_of_ble_eq_true rfl, Nat.le_of_ble_eq_true rfl⟩ (Nat.le_of_ble_eq_true rfl) dX3_stepsOf_26 (Jk_v rfl rfl fun hok5 => ?_)
    cases h
    refine J_wide (k' := 1) (n' := 6) (Nat.le_of_ble_eq_true rfl) (Nat.le_of_ble_eq_true rfl) ?_
    exact J_ireturn dX3_stepsOf_29 rfl rfl rfl rfl rfl
  · replace h := ifp c2 h
    cases h
    exact J_throwS (pc := 11) (text := "there is no such car") rfl rfl rfl (by decide +kernel) w_451 w_27 (by decide) ats_RX3_168 dX3_stepsOf_11 dX3_stepsOf_14 dX3_stepsOf_15 dX3_stepsOf_17 dX3_stepsOf_20 ⟨⟨Nat.le_of_ble_eq_true rfl, Nat.le_of_ble_eq_true rfl⟩, Nat.le_of_ble_eq_true rfl, Nat.le_of_ble_eq_true rfl⟩
set_option maxHeartbeats 4000000 in
set_option maxRecDepth 100000 in
theorem k_X3_stepsOf_n {E : En} (a1 : Int32) (M : Wd) {r : Int32} (h : F_X3_stepsOf_n a1 M = some r) : Con E mi_X3_stepsOf_n [.ref 0, .int a1] M (.inl (some (.int r))) M := by
  unfold F_X3_stepsOf_n at h
  refine Con.of (by decide) rfl (Nat.le_of_ble_eq_true rfl) (fun κ => ?_)
  show J κ E mi_X3_stepsOf_n _ 0 0 [(0, .ref 0), (1, .int a1)] M 0 []
  refine J_aload_n (pc := 0) dX3_stepsOf_0 rfl 0 rfl ?_
  refine get_0_0 (pc := 1) w_154 dX3_stepsOf_1 ?_
  refine J_iload_n (pc := 4) dX3_stepsOf_4 rfl 1 rfl ?_
  refine J_callV (g := mi_X1_hasCar) (ci := 1) (pc := 5) [.int a1] [] mv_X1_hasCar w_774 (k_X1_hasCar  a1 _) rfl (by decide) rfl rfl rfl ⟨⟨Nat.le_of_ble_eq_true rfl, Nat.le_of_ble_eq_true rfl⟩, Nat.le_of_ble_eq_true rfl, Nat.le_of_ble_eq_true rfl⟩ (Nat.le_of_ble_eq_true rfl) dX3_stepsOf_5 (Jk_v rfl rfl fun hok1 => ?_)
  refine J_if_ne (pc := 8) (tgt := 21) dX3_stepsOf_8 (by decide) (fun c2 => ?_) (fun c2 => ?_)
  · replace h := ifn c2 h
    refine J_aload_n (pc := 21) dX3_stepsOf_21 rfl 0 rfl ?_
    refine get_0_0 (pc := 22) w_154 dX3_stepsOf_22 ?_
    refine J_iload_n (pc := 25) dX3_stepsOf_25 rfl 1 rfl ?_
    obtain ⟨v3, hc4, h⟩ := obind_e h
    refine J_callV (g := mi_X1_loggedSteps) (ci := 1) (pc := 26) [.int a1] [] mv_X1_loggedSteps w_397 (k_X1_loggedSteps  a1 _ hc4) rfl (by decide) rfl rfl rfl ⟨⟨Nat.le_of_ble_eq_true rfl, Nat.le_of_ble_eq_true rfl⟩, Nat.le_of_ble_eq_true rfl, Nat.le_of_ble_eq_true rfl⟩ (Nat.le_of_ble_eq_true rfl) dX3_stepsOf_26 (Jk_v rfl rfl fun hok5 => ?_)
    cases h
    exact J_ireturn dX3_stepsOf_29 rfl rfl rfl rfl rfl
  · replace h := ifp c2 h
    cases h
set_option maxHeartbeats 4000000 in
set_option maxRecDepth 100000 in
theorem k_X3_fuel {E : En} (M : Wd) {r : Int32} (h : F_X3_fuel M = some r) : Con E mi_X3_fuel [.ref 0] M (.inl (some (.int r))) M := by
  unfold F_X3_fuel at h
  refine Con.of (by decide) rfl (Nat.le_of_ble_eq_true rfl) (fun κ => ?_)
  show J κ E mi_X3_fuel _ 0 0 [(0, .ref 0)] M 0 []
  refine J_aload_n (pc := 0) dX3_fuel_0 rfl 0 rfl ?_
  refine get_0_0 (pc := 1) w_154 dX3_fuel_1 ?_
  obtain ⟨v1, hc2, h⟩ := obind_e h
  refine J_callV (g := mi_X1_fuelSlideBySlide) (ci := 1) (pc := 4) [] [] mv_X1_fuelSlideBySlide w_235 (k_X1_fuelSlideBySlide  _ hc2) rfl (by decide) rfl rfl rfl ⟨⟨Nat.le_of_ble_eq_true rfl, Nat.le_of_ble_eq_true rfl⟩, Nat.le_of_ble_eq_true rfl, Nat.le_of_ble_eq_true rfl⟩ (Nat.le_of_ble_eq_true rfl) dX3_fuel_4 (Jk_v rfl rfl fun hok3 => ?_)
  cases h
  exact J_ireturn dX3_fuel_7 rfl rfl rfl rfl rfl
set_option maxHeartbeats 4000000 in
set_option maxRecDepth 100000 in
theorem k_X3_fuelByCars {E : En} (M : Wd) {r : Int32} (h : F_X3_fuelByCars M = some r) : Con E mi_X3_fuelByCars [.ref 0] M (.inl (some (.int r))) M := by
  unfold F_X3_fuelByCars at h
  refine Con.of (by decide) rfl (Nat.le_of_ble_eq_true rfl) (fun κ => ?_)
  show J κ E mi_X3_fuelByCars _ 0 0 [(0, .ref 0)] M 0 []
  refine J_aload_n (pc := 0) dX3_fuelByCars_0 rfl 0 rfl ?_
  refine get_0_0 (pc := 1) w_154 dX3_fuelByCars_1 ?_
  obtain ⟨v1, hc2, h⟩ := obind_e h
  refine J_callV (g := mi_X1_fuelCarByCar) (ci := 1) (pc := 4) [] [] mv_X1_fuelCarByCar w_242 (k_X1_fuelCarByCar  _ hc2) rfl (by decide) rfl rfl rfl ⟨⟨Nat.le_of_ble_eq_true rfl, Nat.le_of_ble_eq_true rfl⟩, Nat.le_of_ble_eq_true rfl, Nat.le_of_ble_eq_true rfl⟩ (Nat.le_of_ble_eq_true rfl) dX3_fuelByCars_4 (Jk_v rfl rfl fun hok3 => ?_)
  cases h
  exact J_ireturn dX3_fuelByCars_7 rfl rfl rfl rfl rfl
set_option maxHeartbeats 4000000 in
set_option maxRecDepth 100000 in
theorem k_X3_fewestSlides {E : En} (M : Wd) {r : Int32} {M' : Wd} (h : F_X3_fewestSlides M = some (r, M')) : Con E mi_X3_fewestSlides [.ref 0] M (.inl (some (.int r))) M' := by
  unfold F_X3_fewestSlides at h
  refine Con.of (by decide) rfl (Nat.le_of_ble_eq_true rfl) (fun κ => ?_)
  show J κ E mi_X3_fewestSlides _ 0 0 [(0, .ref 0)] M 0 []
  refine J_aload_n (pc := 0) dX3_fewestSlides_0 rfl 0 rfl ?_
  obtain ⟨M1, hc2, h⟩ := obind_e h
  refine J_callV (g := mi_X3_exploreNow) (ci := 3) (pc := 1) [] [] mv_X3_exploreNow w_250 (k_X3_exploreNow _ hc2) rfl (by decide) rfl rfl rfl ⟨⟨Nat.le_of_ble_eq_true rfl, Nat.le_of_ble_eq_true rfl⟩, Nat.le_of_ble_eq_true rfl, Nat.le_of_ble_eq_true rfl⟩ (Nat.le_of_ble_eq_true rfl) dX3_fewestSlides_1 (Jk_0 rfl rfl ?_)
  refine J_aload_n (pc := 4) dX3_fewestSlides_4 rfl 0 rfl ?_
  refine get_0_3 (pc := 5) w_157 dX3_fewestSlides_5 ?_
  obtain ⟨v3, M4, hc5, h⟩ := obind2_e h
  refine J_callV (g := mi_X0_slidesFromStart) (ci := 0) (pc := 8) [] [] mv_X0_slidesFromStart w_276 (k_X0_slidesFromStart  _ hc5) rfl (by decide) rfl rfl rfl ⟨⟨Nat.le_of_ble_eq_true rfl, Nat.le_of_ble_eq_true rfl⟩, Nat.le_of_ble_eq_true rfl, Nat.le_of_ble_eq_true rfl⟩ (Nat.le_of_ble_eq_true rfl) dX3_fewestSlides_8 (Jk_v rfl rfl fun hok6 => ?_)
  cases h
  exact J_ireturn dX3_fewestSlides_11 rfl rfl rfl rfl rfl
set_option maxHeartbeats 4000000 in
set_option maxRecDepth 100000 in
theorem k_X3_fewestSlidesFromEnds {E : En} (M : Wd) {r : Int32} {M' : Wd} (h : F_X3_fewestSlidesFromEnds M = some (r, M')) : Con E mi_X3_fewestSlidesFromEnds [.ref 0] M (.inl (some (.int r))) M' := by
  unfold F_X3_fewestSlidesFromEnds at h
  refine Con.of (by decide) rfl (Nat.le_of_ble_eq_true rfl) (fun κ => ?_)
  show J κ E mi_X3_fewestSlidesFromEnds _ 0 0 [(0, .ref 0)] M 0 []
  refine J_aload_n (pc := 0) dX3_fewestSlidesFromEnds_0 rfl 0 rfl ?_
  obtain ⟨M1, hc2, h⟩ := obind_e h
  refine J_callV (g := mi_X3_exploreNow) (ci := 3) (pc := 1) [] [] mv_X3_exploreNow w_250 (k_X3_exploreNow _ hc2) rfl (by decide) rfl rfl rfl ⟨⟨Nat.le_of_ble_eq_true rfl, Nat.le_of_ble_eq_true rfl⟩, Nat.le_of_ble_eq_true rfl, Nat.le_of_ble_eq_true rfl⟩ (Nat.le_of_ble_eq_true rfl) dX3_fewestSlidesFromEnds_1 (Jk_0 rfl rfl ?_)
  refine J_aload_n (pc := 4) dX3_fewestSlidesFromEnds_4 rfl 0 rfl ?_
  refine get_0_3 (pc := 5) w_157 dX3_fewestSlidesFromEnds_5 ?_
  obtain ⟨v3, M4, hc5, h⟩ := obind2_e h
  refine J_callV (g := mi_X0_slidesFromEnds) (ci := 0) (pc := 8) [] [] mv_X0_slidesFromEnds w_320 (k_X0_slidesFromEnds  _ hc5) rfl (by decide) rfl rfl rfl ⟨⟨Nat.le_of_ble_eq_true rfl, Nat.le_of_ble_eq_true rfl⟩, Nat.le_of_ble_eq_true rfl, Nat.le_of_ble_eq_true rfl⟩ (Nat.le_of_ble_eq_true rfl) dX3_fewestSlidesFromEnds_8 (Jk_v rfl rfl fun hok6 => ?_)
  cases h
  exact J_ireturn dX3_fewestSlidesFromEnds_11 rfl rfl rfl rfl rfl
set_option maxHeartbeats 4000000 in
set_option maxRecDepth 100000 in
theorem k_X3_fewestSteps {E : En} (M : Wd) {r : Int32} {M' : Wd} (h : F_X3_fewestSteps M = some (r, M')) : Con E mi_X3_fewestSteps [.ref 0] M (.inl (some (.int r))) M' := by
  unfold F_X3_fewestSteps at h
  refine Con.of (by decide) rfl (Nat.le_of_ble_eq_true rfl) (fun κ => ?_)
  show J κ E mi_X3_fewestSteps _ 0 0 [(0, .ref 0)] M 0 []
  refine J_aload_n (pc := 0) dX3_fewestSteps_0 rfl 0 rfl ?_
  obtain ⟨M1, hc2, h⟩ := obind_e h
  refine J_callV (g := mi_X3_exploreNow) (ci := 3) (pc := 1) [] [] mv_X3_exploreNow w_250 (k_X3_exploreNow _ hc2) rfl (by decide) rfl rfl rfl ⟨⟨Nat.le_of_ble_eq_true rfl, Nat.le_of_ble_eq_true rfl⟩, Nat.le_of_ble_eq_true rfl, Nat.le_of_ble_eq_true rfl⟩ (Nat.le_of_ble_eq_true rfl) dX3_fewestSteps_1 (Jk_0 rfl rfl ?_)
  refine J_aload_n (pc := 4) dX3_fewestSteps_4 rfl 0 rfl ?_
  refine get_0_3 (pc := 5) w_157 dX3_fewestSteps_5 ?_
  obtain ⟨v3, M4, hc5, h⟩ := obind2_e h
  refine J_callV (g := mi_X0_stepsFromStart) (ci := 0) (pc := 8) [] [] mv_X0_stepsFromStart w_324 (k_X0_stepsFromStart  _ hc5) rfl (by decide) rfl rfl rfl ⟨⟨Nat.le_of_ble_eq_true rfl, Nat.le_of_ble_eq_true rfl⟩, Nat.le_of_ble_eq_true rfl, Nat.le_of_ble_eq_true rfl⟩ (Nat.le_of_ble_eq_true rfl) dX3_fewestSteps_8 (Jk_v rfl rfl fun hok6 => ?_)
  cases h
  exact J_ireturn dX3_fewestSteps_11 rfl rfl rfl rfl rfl
set_option maxHeartbeats 4000000 in
set_option maxRecDepth 100000 in
theorem k_X3_leastFuel {E : En} (M : Wd) {r : Int32} {M' : Wd} (h : F_X3_leastFuel M = some (r, M')) : Con E mi_X3_leastFuel [.ref 0] M (.inl (some (.int r))) M' := by
  unfold F_X3_leastFuel at h
  refine Con.of (by decide) rfl (Nat.le_of_ble_eq_true rfl) (fun κ => ?_)
  show J κ E mi_X3_leastFuel _ 0 0 [(0, .ref 0)] M 0 []
  refine J_aload_n (pc := 0) dX3_leastFuel_0 rfl 0 rfl ?_
  obtain ⟨M1, hc2, h⟩ := obind_e h
  refine J_callV (g := mi_X3_exploreNow) (ci := 3) (pc := 1) [] [] mv_X3_exploreNow w_250 (k_X3_exploreNow _ hc2) rfl (by decide) rfl rfl rfl ⟨⟨Nat.le_of_ble_eq_true rfl, Nat.le_of_ble_eq_true rfl⟩, Nat.le_of_ble_eq_true rfl, Nat.le_of_ble_eq_true rfl⟩ (Nat.le_of_ble_eq_true rfl) dX3_leastFuel_1 (Jk_0 rfl rfl ?_)
  refine J_aload_n (pc := 4) dX3_leastFuel_4 rfl 0 rfl ?_
  refine get_0_3 (pc := 5) w_157 dX3_leastFuel_5 ?_
  obtain ⟨v3, M4, hc5, h⟩ := obind2_e h
  refine J_callV (g := mi_X0_fuelByBuckets) (ci := 0) (pc := 8) [] [] mv_X0_fuelByBuckets w_328 (k_X0_fuelByBuckets  _ hc5) rfl (by decide) rfl rfl rfl ⟨⟨Nat.le_of_ble_eq_true rfl, Nat.le_of_ble_eq_true rfl⟩, Nat.le_of_ble_eq_true rfl, Nat.le_of_ble_eq_true rfl⟩ (Nat.le_of_ble_eq_true rfl) dX3_leastFuel_8 (Jk_v rfl rfl fun hok6 => ?_)
  cases h
  exact J_ireturn dX3_leastFuel_11 rfl rfl rfl rfl rfl
set_option maxHeartbeats 4000000 in
set_option maxRecDepth 100000 in
theorem k_X3_leastFuelByRounds {E : En} (M : Wd) {r : Int32} {M' : Wd} (h : F_X3_leastFuelByRounds M = some (r, M')) : Con E mi_X3_leastFuelByRounds [.ref 0] M (.inl (some (.int r))) M' := by
  unfold F_X3_leastFuelByRounds at h
  refine Con.of (by decide) rfl (Nat.le_of_ble_eq_true rfl) (fun κ => ?_)
  show J κ E mi_X3_leastFuelByRounds _ 0 0 [(0, .ref 0)] M 0 []
  refine J_aload_n (pc := 0) dX3_leastFuelByRounds_0 rfl 0 rfl ?_
  obtain ⟨M1, hc2, h⟩ := obind_e h
  refine J_callV (g := mi_X3_exploreNow) (ci := 3) (pc := 1) [] [] mv_X3_exploreNow w_250 (k_X3_exploreNow _ hc2) rfl (by decide) rfl rfl rfl ⟨⟨Nat.le_of_ble_eq_true rfl, Nat.le_of_ble_eq_true rfl⟩, Nat.le_of_ble_eq_true rfl, Nat.le_of_ble_eq_true rfl⟩ (Nat.le_of_ble_eq_true rfl) dX3_leastFuelByRounds_1 (Jk_0 rfl rfl ?_)
  refine J_aload_n (pc := 4) dX3_leastFuelByRounds_4 rfl 0 rfl ?_
  refine get_0_3 (pc := 5) w_157 dX3_leastFuelByRounds_5 ?_
  obtain ⟨v3, M4, hc5, h⟩ := obind2_e h
  refine J_callV (g := mi_X0_fuelByRounds) (ci := 0) (pc := 8) [] [] mv_X0_fuelByRounds w_356 (k_X0_fuelByRounds  _ hc5) rfl (by decide) rfl rfl rfl ⟨⟨Nat.le_of_ble_eq_true rfl, Nat.le_of_ble_eq_true rfl⟩, Nat.le_of_ble_eq_true rfl, Nat.le_of_ble_eq_true rfl⟩ (Nat.le_of_ble_eq_true rfl) dX3_leastFuelByRounds_8 (Jk_v rfl rfl fun hok6 => ?_)
  cases h
  exact J_ireturn dX3_leastFuelByRounds_11 rfl rfl rfl rfl rfl
set_option maxHeartbeats 4000000 in
set_option maxRecDepth 100000 in
theorem k_X3_hasNextSlide {E : En} (M : Wd) {r : Int32} {M' : Wd} (h : F_X3_hasNextSlide M = some (r, M')) : Con E mi_X3_hasNextSlide [.ref 0] M (.inl (some (.int r))) M' := by
  unfold F_X3_hasNextSlide at h
  refine Con.of (by decide) rfl (Nat.le_of_ble_eq_true rfl) (fun κ => ?_)
  show J κ E mi_X3_hasNextSlide _ 0 0 [(0, .ref 0)] M 0 []
  refine J_aload_n (pc := 0) dX3_hasNextSlide_0 rfl 0 rfl ?_
  obtain ⟨M1, hc2, h⟩ := obind_e h
  refine J_callV (g := mi_X3_exploreNow) (ci := 3) (pc := 1) [] [] mv_X3_exploreNow w_250 (k_X3_exploreNow _ hc2) rfl (by decide) rfl rfl rfl ⟨⟨Nat.le_of_ble_eq_true rfl, Nat.le_of_ble_eq_true rfl⟩, Nat.le_of_ble_eq_true rfl, Nat.le_of_ble_eq_true rfl⟩ (Nat.le_of_ble_eq_true rfl) dX3_hasNextSlide_1 (Jk_0 rfl rfl ?_)
  refine J_aload_n (pc := 4) dX3_hasNextSlide_4 rfl 0 rfl ?_
  refine get_0_3 (pc := 5) w_157 dX3_hasNextSlide_5 ?_
  obtain ⟨v3, M4, hc5, h⟩ := obind2_e h
  refine J_callV (g := mi_X0_slidesFromEnds) (ci := 0) (pc := 8) [] [] mv_X0_slidesFromEnds w_320 (k_X0_slidesFromEnds  _ hc5) rfl (by decide) rfl rfl rfl ⟨⟨Nat.le_of_ble_eq_true rfl, Nat.le_of_ble_eq_true rfl⟩, Nat.le_of_ble_eq_true rfl, Nat.le_of_ble_eq_true rfl⟩ (Nat.le_of_ble_eq_true rfl) dX3_hasNextSlide_8 (Jk_v rfl rfl fun hok6 => ?_)
  refine J_pop (pc := 11) dX3_hasNextSlide_11 rfl ?_
  refine J_aload_n (pc := 12) dX3_hasNextSlide_12 rfl 0 rfl ?_
  refine get_0_3 (pc := 13) w_157 dX3_hasNextSlide_13 ?_
  refine J_aload_n (pc := 16) dX3_hasNextSlide_16 rfl 0 rfl ?_
  refine get_0_3 (pc := 17) w_157 dX3_hasNextSlide_17 ?_
  refine get_44_8 (pc := 20) w_108 dX3_hasNextSlide_20 ?_
  obtain ⟨v7, M8, hc9, h⟩ := obind2_e h
  refine J_callV (g := mi_X0_findNextSlide) (ci := 0) (pc := 23) [.int (M4.1 44 8)] [] mv_X0_findNextSlide w_637 (k_X0_findNextSlide  (M4.1 44 8) _ hc9) rfl (by decide) rfl rfl rfl ⟨⟨Nat.le_of_ble_eq_true rfl, Nat.le_of_ble_eq_true rfl⟩, Nat.le_of_ble_eq_true rfl, Nat.le_of_ble_eq_true rfl⟩ (Nat.le_of_ble_eq_true rfl) dX3_hasNextSlide_23 (Jk_v rfl rfl fun hok10 => ?_)
  cases h
  exact J_zreturn dX3_hasNextSlide_26 rfl (okB_b hok10) rfl rfl rfl rfl
set_option maxHeartbeats 4000000 in
set_option maxRecDepth 100000 in
theorem k_X3_nextCar {E : En} (M : Wd) {r : Int32 ⊕ Nat} {M' : Wd} (h : F_X3_nextCar M = some (r, M')) : Con E mi_X3_nextCar [.ref 0] M (ocI r) M' := by
  unfold F_X3_nextCar at h
  refine Con.of (by decide) rfl (Nat.le_of_ble_eq_true rfl) (fun κ => ?_)
  show J κ E mi_X3_nextCar _ 0 0 [(0, .ref 0)] M 0 []
  refine J_aload_n (pc := 0) dX3_nextCar_0 rfl 0 rfl ?_
  obtain ⟨v1, M2, hc3, h⟩ := obind2_e h
  refine J_callV (g := mi_X3_hasNextSlide) (ci := 3) (pc := 1) [] [] mv_X3_hasNextSlide w_829 (k_X3_hasNextSlide  _ hc3) rfl (by decide) rfl rfl rfl ⟨⟨Nat.le_of_ble_eq_true rfl, Nat.le_of_ble_eq_true rfl⟩, Nat.le_of_ble_eq_true rfl, Nat.le_of_ble_eq_true rfl⟩ (Nat.le_of_ble_eq_true rfl) dX3_nextCar_1 (Jk_v rfl rfl fun hok4 => ?_)
  refine J_if_ne (pc := 4) (tgt := 17) dX3_nextCar_4 (by decide) (fun c5 => ?_) (fun c5 => ?_)
  · replace h := ifn c5 h
    refine J_aload_n (pc := 17) dX3_nextCar_17 rfl 0 rfl ?_
    refine get_0_3 (pc := 18) w_157 dX3_nextCar_18 ?_
    refine get_44_10 (pc := 21) w_112 dX3_nextCar_21 ?_
    cases h
    refine J_wide (k' := 1) (n' := 6) (Nat.le_of_ble_eq_true rfl) (Nat.le_of_ble_eq_true rfl) ?_
    exact J_ireturn dX3_nextCar_24 rfl rfl rfl rfl rfl
  · replace h := ifp c5 h
    cases h
    exact J_throwS (pc := 7) (text := "there is no next slide") rfl rfl rfl (by decide +kernel) w_535 w_29 (by decide) ats_RX3_66 dX3_nextCar_7 dX3_nextCar_10 dX3_nextCar_11 dX3_nextCar_13 dX3_nextCar_16 ⟨⟨Nat.le_of_ble_eq_true rfl, Nat.le_of_ble_eq_true rfl⟩, Nat.le_of_ble_eq_true rfl, Nat.le_of_ble_eq_true rfl⟩
set_option maxHeartbeats 4000000 in
set_option maxRecDepth 100000 in
theorem k_X3_nextChange {E : En} (M : Wd) {r : Int32 ⊕ Nat} {M' : Wd} (h : F_X3_nextChange M = some (r, M')) : Con E mi_X3_nextChange [.ref 0] M (ocI r) M' := by
  unfold F_X3_nextChange at h
  refine Con.of (by decide) rfl (Nat.le_of_ble_eq_true rfl) (fun κ => ?_)
  show J κ E mi_X3_nextChange _ 0 0 [(0, .ref 0)] M 0 []
  refine J_aload_n (pc := 0) dX3_nextChange_0 rfl 0 rfl ?_
  obtain ⟨v1, M2, hc3, h⟩ := obind2_e h
  refine J_callV (g := mi_X3_hasNextSlide) (ci := 3) (pc := 1) [] [] mv_X3_hasNextSlide w_829 (k_X3_hasNextSlide  _ hc3) rfl (by decide) rfl rfl rfl ⟨⟨Nat.le_of_ble_eq_true rfl, Nat.le_of_ble_eq_true rfl⟩, Nat.le_of_ble_eq_true rfl, Nat.le_of_ble_eq_true rfl⟩ (Nat.le_of_ble_eq_true rfl) dX3_nextChange_1 (Jk_v rfl rfl fun hok4 => ?_)
  refine J_if_ne (pc := 4) (tgt := 17) dX3_nextChange_4 (by decide) (fun c5 => ?_) (fun c5 => ?_)
  · replace h := ifn c5 h
    refine J_aload_n (pc := 17) dX3_nextChange_17 rfl 0 rfl ?_
    refine get_0_3 (pc := 18) w_157 dX3_nextChange_18 ?_
    refine get_44_11 (pc := 21) w_114 dX3_nextChange_21 ?_
    cases h
    refine J_wide (k' := 1) (n' := 6) (Nat.le_of_ble_eq_true rfl) (Nat.le_of_ble_eq_true rfl) ?_
    exact J_ireturn dX3_nextChange_24 rfl rfl rfl rfl rfl
  · replace h := ifp c5 h
    cases h
    exact J_throwS (pc := 7) (text := "there is no next slide") rfl rfl rfl (by decide +kernel) w_535 w_29 (by decide) ats_RX3_66 dX3_nextChange_7 dX3_nextChange_10 dX3_nextChange_11 dX3_nextChange_13 dX3_nextChange_16 ⟨⟨Nat.le_of_ble_eq_true rfl, Nat.le_of_ble_eq_true rfl⟩, Nat.le_of_ble_eq_true rfl, Nat.le_of_ble_eq_true rfl⟩
set_option maxHeartbeats 4000000 in
set_option maxRecDepth 100000 in
theorem k_X3_reachable {E : En} (M : Wd) {r : Int32} {M' : Wd} (h : F_X3_reachable M = some (r, M')) : Con E mi_X3_reachable [.ref 0] M (.inl (some (.int r))) M' := by
  unfold F_X3_reachable at h
  refine Con.of (by decide) rfl (Nat.le_of_ble_eq_true rfl) (fun κ => ?_)
  show J κ E mi_X3_reachable _ 0 0 [(0, .ref 0)] M 0 []
  refine J_aload_n (pc := 0) dX3_reachable_0 rfl 0 rfl ?_
  obtain ⟨M1, hc2, h⟩ := obind_e h
  refine J_callV (g := mi_X3_exploreNow) (ci := 3) (pc := 1) [] [] mv_X3_exploreNow w_250 (k_X3_exploreNow _ hc2) rfl (by decide) rfl rfl rfl ⟨⟨Nat.le_of_ble_eq_true rfl, Nat.le_of_ble_eq_true rfl⟩, Nat.le_of_ble_eq_true rfl, Nat.le_of_ble_eq_true rfl⟩ (Nat.le_of_ble_eq_true rfl) dX3_reachable_1 (Jk_0 rfl rfl ?_)
  refine J_aload_n (pc := 4) dX3_reachable_4 rfl 0 rfl ?_
  refine get_0_3 (pc := 5) w_157 dX3_reachable_5 ?_
  refine J_iconst (v := (3 : Int32)) (pc := 8) dX3_reachable_8 (by decide) ?_
  obtain ⟨M3, hc4, h⟩ := obind_e h
  refine J_callV (g := mi_X0_spreadFromStart) (ci := 0) (pc := 9) [.int (3 : Int32)] [] mv_X0_spreadFromStart w_364 (k_X0_spreadFromStart (3 : Int32) _ hc4) rfl (by decide) rfl rfl rfl ⟨⟨Nat.le_of_ble_eq_true rfl, Nat.le_of_ble_eq_true rfl⟩, Nat.le_of_ble_eq_true rfl, Nat.le_of_ble_eq_true rfl⟩ (Nat.le_of_ble_eq_true rfl) dX3_reachable_9 (Jk_0 rfl rfl ?_)
  refine J_aload_n (pc := 12) dX3_reachable_12 rfl 0 rfl ?_
  refine get_0_3 (pc := 13) w_157 dX3_reachable_13 ?_
  refine get_44_9 (pc := 16) w_110 dX3_reachable_16 ?_
  cases h
  exact J_ireturn dX3_reachable_19 rfl rfl rfl rfl rfl
set_option maxHeartbeats 4000000 in
set_option maxRecDepth 100000 in
theorem k_X3_reachableOut {E : En} (M : Wd) {r : Int32} {M' : Wd} (h : F_X3_reachableOut M = some (r, M')) : Con E mi_X3_reachableOut [.ref 0] M (.inl (some (.int r))) M' := by
  unfold F_X3_reachableOut at h
  refine Con.of (by decide) rfl (Nat.le_of_ble_eq_true rfl) (fun κ => ?_)
  show J κ E mi_X3_reachableOut _ 0 0 [(0, .ref 0)] M 0 []
  refine J_aload_n (pc := 0) dX3_reachableOut_0 rfl 0 rfl ?_
  obtain ⟨M1, hc2, h⟩ := obind_e h
  refine J_callV (g := mi_X3_exploreNow) (ci := 3) (pc := 1) [] [] mv_X3_exploreNow w_250 (k_X3_exploreNow _ hc2) rfl (by decide) rfl rfl rfl ⟨⟨Nat.le_of_ble_eq_true rfl, Nat.le_of_ble_eq_true rfl⟩, Nat.le_of_ble_eq_true rfl, Nat.le_of_ble_eq_true rfl⟩ (Nat.le_of_ble_eq_true rfl) dX3_reachableOut_1 (Jk_0 rfl rfl ?_)
  refine J_aload_n (pc := 4) dX3_reachableOut_4 rfl 0 rfl ?_
  refine get_0_3 (pc := 5) w_157 dX3_reachableOut_5 ?_
  refine J_iconst (v := (3 : Int32)) (pc := 8) dX3_reachableOut_8 (by decide) ?_
  obtain ⟨M3, hc4, h⟩ := obind_e h
  refine J_callV (g := mi_X0_spreadFromStart) (ci := 0) (pc := 9) [.int (3 : Int32)] [] mv_X0_spreadFromStart w_364 (k_X0_spreadFromStart (3 : Int32) _ hc4) rfl (by decide) rfl rfl rfl ⟨⟨Nat.le_of_ble_eq_true rfl, Nat.le_of_ble_eq_true rfl⟩, Nat.le_of_ble_eq_true rfl, Nat.le_of_ble_eq_true rfl⟩ (Nat.le_of_ble_eq_true rfl) dX3_reachableOut_9 (Jk_0 rfl rfl ?_)
  refine J_aload_n (pc := 12) dX3_reachableOut_12 rfl 0 rfl ?_
  refine get_0_3 (pc := 13) w_157 dX3_reachableOut_13 ?_
  obtain ⟨v5, hc6, h⟩ := obind_e h
  refine J_callV (g := mi_X0_foundOut) (ci := 0) (pc := 16) [] [] mv_X0_foundOut w_369 (k_X0_foundOut  _ hc6) rfl (by decide) rfl rfl rfl ⟨⟨Nat.le_of_ble_eq_true rfl, Nat.le_of_ble_eq_true rfl⟩, Nat.le_of_ble_eq_true rfl, Nat.le_of_ble_eq_true rfl⟩ (Nat.le_of_ble_eq_true rfl) dX3_reachableOut_16 (Jk_v rfl rfl fun hok7 => ?_)
  cases h
  exact J_ireturn dX3_reachableOut_19 rfl rfl rfl rfl rfl
set_option maxHeartbeats 4000000 in
set_option maxRecDepth 100000 in
theorem k_X3_farthest {E : En} (M : Wd) {r : Int32} {M' : Wd} (h : F_X3_farthest M = some (r, M')) : Con E mi_X3_farthest [.ref 0] M (.inl (some (.int r))) M' := by
  unfold F_X3_farthest at h
  refine Con.of (by decide) rfl (Nat.le_of_ble_eq_true rfl) (fun κ => ?_)
  show J κ E mi_X3_farthest _ 0 0 [(0, .ref 0)] M 0 []
  refine J_aload_n (pc := 0) dX3_farthest_0 rfl 0 rfl ?_
  obtain ⟨M1, hc2, h⟩ := obind_e h
  refine J_callV (g := mi_X3_exploreNow) (ci := 3) (pc := 1) [] [] mv_X3_exploreNow w_250 (k_X3_exploreNow _ hc2) rfl (by decide) rfl rfl rfl ⟨⟨Nat.le_of_ble_eq_true rfl, Nat.le_of_ble_eq_true rfl⟩, Nat.le_of_ble_eq_true rfl, Nat.le_of_ble_eq_true rfl⟩ (Nat.le_of_ble_eq_true rfl) dX3_farthest_1 (Jk_0 rfl rfl ?_)
  refine J_aload_n (pc := 4) dX3_farthest_4 rfl 0 rfl ?_
  refine get_0_3 (pc := 5) w_157 dX3_farthest_5 ?_
  refine J_iconst (v := (3 : Int32)) (pc := 8) dX3_farthest_8 (by decide) ?_
  obtain ⟨M3, hc4, h⟩ := obind_e h
  refine J_callV (g := mi_X0_spreadFromStart) (ci := 0) (pc := 9) [.int (3 : Int32)] [] mv_X0_spreadFromStart w_364 (k_X0_spreadFromStart (3 : Int32) _ hc4) rfl (by decide) rfl rfl rfl ⟨⟨Nat.le_of_ble_eq_true rfl, Nat.le_of_ble_eq_true rfl⟩, Nat.le_of_ble_eq_true rfl, Nat.le_of_ble_eq_true rfl⟩ (Nat.le_of_ble_eq_true rfl) dX3_farthest_9 (Jk_0 rfl rfl ?_)
  refine J_aload_n (pc := 12) dX3_farthest_12 rfl 0 rfl ?_
  refine get_0_3 (pc := 13) w_157 dX3_farthest_13 ?_
  obtain ⟨v5, hc6, h⟩ := obind_e h
  refine J_callV (g := mi_X0_farthestFound) (ci := 0) (pc := 16) [] [] mv_X0_farthestFound w_373 (k_X0_farthestFound  _ hc6) rfl (by decide) rfl rfl rfl ⟨⟨Nat.le_of_ble_eq_true rfl, Nat.le_of_ble_eq_true rfl⟩, Nat.le_of_ble_eq_true rfl, Nat.le_of_ble_eq_true rfl⟩ (Nat.le_of_ble_eq_true rfl) dX3_farthest_16 (Jk_v rfl rfl fun hok7 => ?_)
  cases h
  exact J_ireturn dX3_farthest_19 rfl rfl rfl rfl rfl
set_option maxHeartbeats 4000000 in
set_option maxRecDepth 100000 in
theorem k_X3_arrangements {E : En} (M : Wd) {r : Int32} {M' : Wd} (h : F_X3_arrangements M = some (r, M')) : Con E mi_X3_arrangements [.ref 0] M (.inl (some (.int r))) M' := by
  unfold F_X3_arrangements at h
  refine Con.of (by decide) rfl (Nat.le_of_ble_eq_true rfl) (fun κ => ?_)
  show J κ E mi_X3_arrangements _ 0 0 [(0, .ref 0)] M 0 []
  refine J_aload_n (pc := 0) dX3_arrangements_0 rfl 0 rfl ?_
  obtain ⟨M1, hc2, h⟩ := obind_e h
  refine J_callV (g := mi_X3_exploreNow) (ci := 3) (pc := 1) [] [] mv_X3_exploreNow w_250 (k_X3_exploreNow _ hc2) rfl (by decide) rfl rfl rfl ⟨⟨Nat.le_of_ble_eq_true rfl, Nat.le_of_ble_eq_true rfl⟩, Nat.le_of_ble_eq_true rfl, Nat.le_of_ble_eq_true rfl⟩ (Nat.le_of_ble_eq_true rfl) dX3_arrangements_1 (Jk_0 rfl rfl ?_)
  refine J_aload_n (pc := 4) dX3_arrangements_4 rfl 0 rfl ?_
  refine get_0_3 (pc := 5) w_157 dX3_arrangements_5 ?_
  obtain ⟨v3, hc4, h⟩ := obind_e h
  refine J_callV (g := mi_X0_allArrangements) (ci := 0) (pc := 8) [] [] mv_X0_allArrangements w_377 (k_X0_allArrangements  _ hc4) rfl (by decide) rfl rfl rfl ⟨⟨Nat.le_of_ble_eq_true rfl, Nat.le_of_ble_eq_true rfl⟩, Nat.le_of_ble_eq_true rfl, Nat.le_of_ble_eq_true rfl⟩ (Nat.le_of_ble_eq_true rfl) dX3_arrangements_8 (Jk_v rfl rfl fun hok5 => ?_)
  cases h
  exact J_ireturn dX3_arrangements_11 rfl rfl rfl rfl rfl
set_option maxHeartbeats 4000000 in
set_option maxRecDepth 100000 in
theorem k_X3_fewestBehind {E : En} (a1 : Int32) (a2 : Int32) (M : Wd) {r : Int32 ⊕ Nat} {M' : Wd} (h : F_X3_fewestBehind a1 a2 M = some (r, M')) : Con E mi_X3_fewestBehind [.ref 0, .int a1, .int a2] M (ocI r) M' := by
  unfold F_X3_fewestBehind at h
  refine Con.of (by decide) rfl (Nat.le_of_ble_eq_true rfl) (fun κ => ?_)
  show J κ E mi_X3_fewestBehind _ 0 0 [(0, .ref 0), (1, .int a1), (2, .int a2)] M 0 []
  refine J_aload_n (pc := 0) dX3_fewestBehind_0 rfl 0 rfl ?_
  refine get_0_0 (pc := 1) w_154 dX3_fewestBehind_1 ?_
  refine J_iload_n (pc := 4) dX3_fewestBehind_4 rfl 1 rfl ?_
  refine J_iload_n (pc := 5) dX3_fewestBehind_5 rfl 2 rfl ?_
  obtain ⟨v1, hc2, h⟩ := obind_e h
  refine J_callV (g := mi_X1_troubleOfSliding) (ci := 1) (pc := 6) [.int a1, .int a2] [] mv_X1_troubleOfSliding w_595 (k_X1_troubleOfSliding  a1 a2 _ hc2) rfl (by decide) rfl rfl rfl ⟨⟨Nat.le_of_ble_eq_true rfl, Nat.le_of_ble_eq_true rfl⟩, Nat.le_of_ble_eq_true rfl, Nat.le_of_ble_eq_true rfl⟩ (Nat.le_of_ble_eq_true rfl) dX3_fewestBehind_6 (Jk_v rfl rfl fun hok3 => ?_)
  rcases obindX_e h with ⟨v4, M5, hc6, h⟩ | ⟨x8, M5, hc6, h⟩
  · refine J_callS (g := mi_X3_refuse) (pc := 9) [.int v1] [] ms_X3_refuse w_448 (k_X3_refuse v1 _ hc6) rfl rfl ⟨⟨Nat.le_of_ble_eq_true rfl, Nat.le_of_ble_eq_true rfl⟩, Nat.le_of_ble_eq_true rfl, Nat.le_of_ble_eq_true rfl⟩ (Nat.le_of_ble_eq_true rfl) dX3_fewestBehind_9 (Jk_0k 1 6 rfl rfl ?_)
    refine J_aload_n (pc := 12) dX3_fewestBehind_12 rfl 0 rfl ?_
    obtain ⟨M9, hc10, h⟩ := obind_e h
    refine J_callV (g := mi_X3_exploreNow) (ci := 3) (pc := 13) [] [] mv_X3_exploreNow w_250 (k_X3_exploreNow _ hc10) rfl (by decide) rfl rfl rfl ⟨⟨Nat.le_of_ble_eq_true rfl, Nat.le_of_ble_eq_true rfl⟩, Nat.le_of_ble_eq_true rfl, Nat.le_of_ble_eq_true rfl⟩ (Nat.le_of_ble_eq_true rfl) dX3_fewestBehind_13 (Jk_0 rfl rfl ?_)
    refine J_aload_n (pc := 16) dX3_fewestBehind_16 rfl 0 rfl ?_
    refine get_0_3 (pc := 17) w_157 dX3_fewestBehind_17 ?_
    refine J_aload_n (pc := 20) dX3_fewestBehind_20 rfl 0 rfl ?_
    refine get_0_3 (pc := 21) w_157 dX3_fewestBehind_21 ?_
    refine J_aload_n (pc := 24) dX3_fewestBehind_24 rfl 0 rfl ?_
    refine get_0_3 (pc := 25) w_157 dX3_fewestBehind_25 ?_
    refine get_44_8 (pc := 28) w_108 dX3_fewestBehind_28 ?_
    refine J_iload_n (pc := 31) dX3_fewestBehind_31 rfl 1 rfl ?_
    refine J_iload_n (pc := 32) dX3_fewestBehind_32 rfl 2 rfl ?_
    obtain ⟨v11, hc12, h⟩ := obind_e h
    refine J_callV (g := mi_X0_behindSlide) (ci := 0) (pc := 33) [.int (M9.1 44 8), .int a1, .int a2] [.ref 44] mv_X0_behindSlide w_646 (k_X0_behindSlide  (M9.1 44 8) a1 a2 _ hc12) rfl (by decide) rfl rfl rfl ⟨⟨Nat.le_of_ble_eq_true rfl, Nat.le_of_ble_eq_true rfl⟩, Nat.le_of_ble_eq_true rfl, Nat.le_of_ble_eq_true rfl⟩ (Nat.le_of_ble_eq_true rfl) dX3_fewestBehind_33 (Jk_v rfl rfl fun hok13 => ?_)
    refine put_44_8 (pc := 36) w_108 dX3_fewestBehind_36 ?_
    refine J_aload_n (pc := 39) dX3_fewestBehind_39 rfl 0 rfl ?_
    refine get_0_3 (pc := 40) w_157 dX3_fewestBehind_40 ?_
    obtain ⟨v14, M15, hc16, h⟩ := obind2_e h
    refine J_callV (g := mi_X0_slidesFromStart) (ci := 0) (pc := 43) [] [] mv_X0_slidesFromStart w_276 (k_X0_slidesFromStart  _ hc16) rfl (by decide) rfl rfl rfl ⟨⟨Nat.le_of_ble_eq_true rfl, Nat.le_of_ble_eq_true rfl⟩, Nat.le_of_ble_eq_true rfl, Nat.le_of_ble_eq_true rfl⟩ (Nat.le_of_ble_eq_true rfl) dX3_fewestBehind_43 (Jk_v rfl rfl fun hok17 => ?_)
    cases h
    refine J_wide (k' := 1) (n' := 6) (Nat.le_of_ble_eq_true rfl) (Nat.le_of_ble_eq_true rfl) ?_
    exact J_ireturn dX3_fewestBehind_46 rfl rfl rfl rfl rfl
  · cases h
    refine J_callS (g := mi_X3_refuse) (pc := 9) [.int v1] [] ms_X3_refuse w_448 (k_X3_refuse v1 _ hc6) rfl rfl ⟨⟨Nat.le_of_ble_eq_true rfl, Nat.le_of_ble_eq_true rfl⟩, Nat.le_of_ble_eq_true rfl, Nat.le_of_ble_eq_true rfl⟩ (Nat.le_of_ble_eq_true rfl) dX3_fewestBehind_9 (Jk_out rfl rfl rfl ⟨⟨Nat.le_of_ble_eq_true rfl, Nat.le_of_ble_eq_true rfl⟩, Nat.le_of_ble_eq_true rfl, Nat.le_of_ble_eq_true rfl⟩)

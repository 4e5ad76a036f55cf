/-! ===== walks of the law's helpers, 1 ===== -/
set_option maxHeartbeats 4000000 in
set_option maxRecDepth 100000 in
theorem k_L_wall {E : En} (a1 : Int32) (M : Wd) {r : Int32} {M' : Wd} (h : F_L_wall a1 M = some (r, M')) : Con E mi_L_wall [.ref 0, .int a1] M (.inl (some (.int r))) M' := by
  unfold F_L_wall at h
  refine Con.ofH (by decide) rfl (Nat.le_of_ble_eq_true rfl) (fun κ => ?_)
  show J κ E mi_L_wall _ 0 0 [(0, .ref 0), (1, .int a1)] M 0 []
  refine J_aload_n (pc := 0) dL_wall_0 rfl 0 rfl ?_
  refine J_iload_n (pc := 1) dL_wall_1 rfl 1 rfl ?_
  rcases obindX_e h with ⟨v1, M2, hc3, h⟩ | ⟨x5, M2, hc3, h⟩
  · refine J_callV (g := mi_X3_toggleWall) (ci := 3) (pc := 2) [.int a1] [] mv_X3_toggleWall w_867 (k_X3_toggleWall a1 _ hc3) rfl (by decide) rfl rfl rfl ⟨⟨Nat.le_of_ble_eq_true rfl, Nat.le_of_ble_eq_true rfl⟩, Nat.le_of_ble_eq_true rfl, Nat.le_of_ble_eq_true rfl⟩ (Nat.le_of_ble_eq_true rfl) dL_wall_2 (Jk_vk 1 6 rfl rfl fun hok4 => ?_)
    refine J_if_eq (pc := 5) (tgt := 12) dL_wall_5 (by decide) (fun c6 => ?_) (fun c6 => ?_)
    · replace h := ifp c6 h
      refine J_iconst (v := (0 : Int32)) (pc := 12) dL_wall_12 (by decide) ?_
      cases h
      refine J_wide (k' := 1) (n' := 6) (Nat.le_of_ble_eq_true rfl) (Nat.le_of_ble_eq_true rfl) ?_
      exact J_ireturn dL_wall_13 rfl rfl rfl rfl rfl
    · replace h := ifn c6 h
      refine J_iconst (v := (1 : Int32)) (pc := 8) dL_wall_8 (by decide) ?_
      refine J_goto (pc := 9) (tgt := 13) dL_wall_9 (by decide) ?_
      cases h
      refine J_wide (k' := 1) (n' := 6) (Nat.le_of_ble_eq_true rfl) (Nat.le_of_ble_eq_true rfl) ?_
      exact J_ireturn dL_wall_13 rfl rfl rfl rfl rfl
  · by_cases c7 : x5 = 1
    · subst c7
      replace h := ifp rfl h
      refine J_callV (g := mi_X3_toggleWall) (ci := 3) (pc := 2) [.int a1] [] mv_X3_toggleWall w_867 (show Con E _ _ _ (.inr "java/lang/IndexOutOfBoundsException") _ from (k_X3_toggleWall a1 _ hc3)) rfl (by decide) rfl rfl rfl ⟨⟨Nat.le_of_ble_eq_true rfl, Nat.le_of_ble_eq_true rfl⟩, Nat.le_of_ble_eq_true rfl, Nat.le_of_ble_eq_true rfl⟩ (Nat.le_of_ble_eq_true rfl) dL_wall_2 (Jk_catch [] [(0, 13, 18, 16)] (0, 13, 14, 13) rfl (fun z hz => by cases hz) rfl (by decide) w_437 w_453 fun q9 => ?_)
      refine J_astore_n (pc := 14) dL_wall_14 rfl (Nat.le_of_ble_eq_true rfl) [1, 2, 0] rfl ?_
      refine J_ldc (pc := 15) w_573 dL_wall_15 ?_
      cases h
      refine J_wide (k' := 1) (n' := 6) (Nat.le_of_ble_eq_true rfl) (Nat.le_of_ble_eq_true rfl) ?_
      exact J_ireturn dL_wall_17 rfl rfl rfl rfl rfl
    · replace h := ifn c7 h
      by_cases c8 : x5 = 3
      · subst c8
        replace h := ifp rfl h
        refine J_callV (g := mi_X3_toggleWall) (ci := 3) (pc := 2) [.int a1] [] mv_X3_toggleWall w_867 (show Con E _ _ _ (.inr "java/lang/IllegalStateException") _ from (k_X3_toggleWall a1 _ hc3)) rfl (by decide) rfl rfl rfl ⟨⟨Nat.le_of_ble_eq_true rfl, Nat.le_of_ble_eq_true rfl⟩, Nat.le_of_ble_eq_true rfl, Nat.le_of_ble_eq_true rfl⟩ (Nat.le_of_ble_eq_true rfl) dL_wall_2 (Jk_catch [(0, 13, 14, 13)] [] (0, 13, 18, 16) rfl (List.forall_mem_cons.mpr ⟨⟨by decide, _, w_437, by decide⟩, (fun z hz => by cases hz)⟩) rfl (by decide) w_439 w_537 fun q9 => ?_)
        refine J_astore_n (pc := 18) dL_wall_18 rfl (Nat.le_of_ble_eq_true rfl) [1, 2, 0] rfl ?_
        refine J_ldc (pc := 19) w_575 dL_wall_19 ?_
        cases h
        refine J_wide (k' := 1) (n' := 6) (Nat.le_of_ble_eq_true rfl) (Nat.le_of_ble_eq_true rfl) ?_
        exact J_ireturn dL_wall_21 rfl rfl rfl rfl rfl
      · replace h := ifn c8 h
        cases h
set_option maxHeartbeats 4000000 in
set_option maxRecDepth 100000 in
theorem k_L_isWall {E : En} (a1 : Int32) (M : Wd) {r : Int32} {M' : Wd} (h : F_L_isWall a1 M = some (r, M')) : Con E mi_L_isWall [.ref 0, .int a1] M (.inl (some (.int r))) M' := by
  unfold F_L_isWall at h
  refine Con.ofH (by decide) rfl (Nat.le_of_ble_eq_true rfl) (fun κ => ?_)
  show J κ E mi_L_isWall _ 0 0 [(0, .ref 0), (1, .int a1)] M 0 []
  refine J_aload_n (pc := 0) dL_isWall_0 rfl 0 rfl ?_
  refine J_iload_n (pc := 1) dL_isWall_1 rfl 1 rfl ?_
  rcases obindX_e h with ⟨v1, M2, hc3, h⟩ | ⟨x5, M2, hc3, h⟩
  · refine J_callV (g := mi_X3_isWall) (ci := 3) (pc := 2) [.int a1] [] mv_X3_isWall w_874 (k_X3_isWall a1 _ hc3) rfl (by decide) rfl rfl rfl ⟨⟨Nat.le_of_ble_eq_true rfl, Nat.le_of_ble_eq_true rfl⟩, Nat.le_of_ble_eq_true rfl, Nat.le_of_ble_eq_true rfl⟩ (Nat.le_of_ble_eq_true rfl) dL_isWall_2 (Jk_vk 1 6 rfl rfl fun hok4 => ?_)
    refine J_if_eq (pc := 5) (tgt := 12) dL_isWall_5 (by decide) (fun c6 => ?_) (fun c6 => ?_)
    · replace h := ifp c6 h
      refine J_iconst (v := (0 : Int32)) (pc := 12) dL_isWall_12 (by decide) ?_
      cases h
      refine J_wide (k' := 1) (n' := 6) (Nat.le_of_ble_eq_true rfl) (Nat.le_of_ble_eq_true rfl) ?_
      exact J_ireturn dL_isWall_13 rfl rfl rfl rfl rfl
    · replace h := ifn c6 h
      refine J_iconst (v := (1 : Int32)) (pc := 8) dL_isWall_8 (by decide) ?_
      refine J_goto (pc := 9) (tgt := 13) dL_isWall_9 (by decide) ?_
      cases h
      refine J_wide (k' := 1) (n' := 6) (Nat.le_of_ble_eq_true rfl) (Nat.le_of_ble_eq_true rfl) ?_
      exact J_ireturn dL_isWall_13 rfl rfl rfl rfl rfl
  · by_cases c7 : x5 = 1
    · subst c7
      replace h := ifp rfl h
      refine J_callV (g := mi_X3_isWall) (ci := 3) (pc := 2) [.int a1] [] mv_X3_isWall w_874 (show Con E _ _ _ (.inr "java/lang/IndexOutOfBoundsException") _ from (k_X3_isWall a1 _ hc3)) rfl (by decide) rfl rfl rfl ⟨⟨Nat.le_of_ble_eq_true rfl, Nat.le_of_ble_eq_true rfl⟩, Nat.le_of_ble_eq_true rfl, Nat.le_of_ble_eq_true rfl⟩ (Nat.le_of_ble_eq_true rfl) dL_isWall_2 (Jk_catch [] [] (0, 13, 14, 13) rfl (fun z hz => by cases hz) rfl (by decide) w_437 w_453 fun q9 => ?_)
      refine J_astore_n (pc := 14) dL_isWall_14 rfl (Nat.le_of_ble_eq_true rfl) [1, 2, 0] rfl ?_
      refine J_ldc (pc := 15) w_573 dL_isWall_15 ?_
      cases h
      refine J_wide (k' := 1) (n' := 6) (Nat.le_of_ble_eq_true rfl) (Nat.le_of_ble_eq_true rfl) ?_
      exact J_ireturn dL_isWall_17 rfl rfl rfl rfl rfl
    · replace h := ifn c7 h
      cases h
set_option maxHeartbeats 4000000 in
set_option maxRecDepth 100000 in
theorem k_L_isWall_n {E : En} (a1 : Int32) (M : Wd) {r : Int32} (h : F_L_isWall_n a1 M = some r) : Con E mi_L_isWall_n [.ref 0, .int a1] M (.inl (some (.int r))) M := by
  unfold F_L_isWall_n at h
  refine Con.ofH (by decide) rfl (Nat.le_of_ble_eq_true rfl) (fun κ => ?_)
  show J κ E mi_L_isWall_n _ 0 0 [(0, .ref 0), (1, .int a1)] M 0 []
  refine J_aload_n (pc := 0) dL_isWall_0 rfl 0 rfl ?_
  refine J_iload_n (pc := 1) dL_isWall_1 rfl 1 rfl ?_
  obtain ⟨v1, hc2, h⟩ := obind_e h
  refine J_callV (g := mi_X3_isWall_n) (ci := 3) (pc := 2) [.int a1] [] mv_X3_isWall_n w_874 (k_X3_isWall_n  a1 _ hc2) rfl (by decide) rfl rfl rfl ⟨⟨Nat.le_of_ble_eq_true rfl, Nat.le_of_ble_eq_true rfl⟩, Nat.le_of_ble_eq_true rfl, Nat.le_of_ble_eq_true rfl⟩ (Nat.le_of_ble_eq_true rfl) dL_isWall_2 (Jk_v rfl rfl fun hok3 => ?_)
  refine J_if_eq (pc := 5) (tgt := 12) dL_isWall_5 (by decide) (fun c4 => ?_) (fun c4 => ?_)
  · replace h := ifp c4 h
    refine J_iconst (v := (0 : Int32)) (pc := 12) dL_isWall_12 (by decide) ?_
    cases h
    exact J_ireturn dL_isWall_13 rfl rfl rfl rfl rfl
  · replace h := ifn c4 h
    refine J_iconst (v := (1 : Int32)) (pc := 8) dL_isWall_8 (by decide) ?_
    refine J_goto (pc := 9) (tgt := 13) dL_isWall_9 (by decide) ?_
    cases h
    exact J_ireturn dL_isWall_13 rfl rfl rfl rfl rfl
set_option maxHeartbeats 4000000 in
set_option maxRecDepth 100000 in
theorem k_L_room {E : En} (a1 : Int32) (a2 : Int32) (M : Wd) {r : Int32} {M' : Wd} (h : F_L_room a1 a2 M = some (r, M')) : Con E mi_L_room [.ref 0, .int a1, .int a2] M (.inl (some (.int r))) M' := by
  unfold F_L_room at h
  refine Con.ofH (by decide) rfl (Nat.le_of_ble_eq_true rfl) (fun κ => ?_)
  show J κ E mi_L_room _ 0 0 [(0, .ref 0), (1, .int a1), (2, .int a2)] M 0 []
  refine J_aload_n (pc := 0) dL_room_0 rfl 0 rfl ?_
  refine J_iload_n (pc := 1) dL_room_1 rfl 1 rfl ?_
  refine J_iload_n (pc := 2) dL_room_2 rfl 2 rfl ?_
  rcases obindX_e h with ⟨v1, M2, hc3, h⟩ | ⟨x5, M2, hc3, h⟩
  · refine J_callV (g := mi_X3_room) (ci := 3) (pc := 3) [.int a1, .int a2] [] mv_X3_room w_881 (k_X3_room a1 a2 _ hc3) rfl (by decide) rfl rfl rfl ⟨⟨Nat.le_of_ble_eq_true rfl, Nat.le_of_ble_eq_true rfl⟩, Nat.le_of_ble_eq_true rfl, Nat.le_of_ble_eq_true rfl⟩ (Nat.le_of_ble_eq_true rfl) dL_room_3 (Jk_vk 1 6 rfl rfl fun hok4 => ?_)
    cases h
    refine J_wide (k' := 1) (n' := 6) (Nat.le_of_ble_eq_true rfl) (Nat.le_of_ble_eq_true rfl) ?_
    exact J_ireturn dL_room_6 rfl rfl rfl rfl rfl
  · by_cases c6 : x5 = 1
    · subst c6
      replace h := ifp rfl h
      refine J_callV (g := mi_X3_room) (ci := 3) (pc := 3) [.int a1, .int a2] [] mv_X3_room w_881 (show Con E _ _ _ (.inr "java/lang/IndexOutOfBoundsException") _ from (k_X3_room a1 a2 _ hc3)) rfl (by decide) rfl rfl rfl ⟨⟨Nat.le_of_ble_eq_true rfl, Nat.le_of_ble_eq_true rfl⟩, Nat.le_of_ble_eq_true rfl, Nat.le_of_ble_eq_true rfl⟩ (Nat.le_of_ble_eq_true rfl) dL_room_3 (Jk_catch [] [] (0, 6, 7, 13) rfl (fun z hz => by cases hz) rfl (by decide) w_437 w_453 fun q9 => ?_)
      refine J_astore_n (pc := 7) dL_room_7 rfl (Nat.le_of_ble_eq_true rfl) [1, 2, 3, 0] rfl ?_
      refine J_ldc (pc := 8) w_573 dL_room_8 ?_
      cases h
      refine J_wide (k' := 1) (n' := 6) (Nat.le_of_ble_eq_true rfl) (Nat.le_of_ble_eq_true rfl) ?_
      exact J_ireturn dL_room_10 rfl rfl rfl rfl rfl
    · replace h := ifn c6 h
      cases h
set_option maxHeartbeats 4000000 in
set_option maxRecDepth 100000 in
theorem k_L_room_n {E : En} (a1 : Int32) (a2 : Int32) (M : Wd) {r : Int32} (h : F_L_room_n a1 a2 M = some r) : Con E mi_L_room_n [.ref 0, .int a1, .int a2] M (.inl (some (.int r))) M := by
  unfold F_L_room_n at h
  refine Con.ofH (by decide) rfl (Nat.le_of_ble_eq_true rfl) (fun κ => ?_)
  show J κ E mi_L_room_n _ 0 0 [(0, .ref 0), (1, .int a1), (2, .int a2)] M 0 []
  refine J_aload_n (pc := 0) dL_room_0 rfl 0 rfl ?_
  refine J_iload_n (pc := 1) dL_room_1 rfl 1 rfl ?_
  refine J_iload_n (pc := 2) dL_room_2 rfl 2 rfl ?_
  obtain ⟨v1, hc2, h⟩ := obind_e h
  refine J_callV (g := mi_X3_room_n) (ci := 3) (pc := 3) [.int a1, .int a2] [] mv_X3_room_n w_881 (k_X3_room_n  a1 a2 _ hc2) rfl (by decide) rfl rfl rfl ⟨⟨Nat.le_of_ble_eq_true rfl, Nat.le_of_ble_eq_true rfl⟩, Nat.le_of_ble_eq_true rfl, Nat.le_of_ble_eq_true rfl⟩ (Nat.le_of_ble_eq_true rfl) dL_room_3 (Jk_v rfl rfl fun hok3 => ?_)
  cases h
  exact J_ireturn dL_room_6 rfl rfl rfl rfl rfl
set_option maxHeartbeats 4000000 in
set_option maxRecDepth 100000 in
theorem k_L_tryAdd {E : En} (a1 : Int32) (a2 : Int32) (a3 : Int32) (M : Wd) {r : Int32} {M' : Wd} (h : F_L_tryAdd a1 a2 a3 M = some (r, M')) : Con E mi_L_tryAdd [.ref 0, .int a1, .int a2, .int a3] M (.inl (some (.int r))) M' := by
  unfold F_L_tryAdd at h
  refine Con.ofH (by decide) rfl (Nat.le_of_ble_eq_true rfl) (fun κ => ?_)
  show J κ E mi_L_tryAdd _ 0 0 [(0, .ref 0), (1, .int a1), (2, .int a2), (3, .int a3)] M 0 []
  refine J_aload_n (pc := 0) dL_tryAdd_0 rfl 0 rfl ?_
  refine J_iload_n (pc := 1) dL_tryAdd_1 rfl 1 rfl ?_
  refine J_iload_n (pc := 2) dL_tryAdd_2 rfl 2 rfl ?_
  refine J_iload_n (pc := 3) dL_tryAdd_3 rfl 3 rfl ?_
  rcases obindX_e h with ⟨v1, M2, hc3, h⟩ | ⟨x5, M2, hc3, h⟩
  · refine J_callV (g := mi_X3_addCar) (ci := 3) (pc := 4) [.int a1, .int a2, .int a3] [] mv_X3_addCar w_440 (k_X3_addCar a1 a2 a3 _ hc3) rfl (by decide) rfl rfl rfl ⟨⟨Nat.le_of_ble_eq_true rfl, Nat.le_of_ble_eq_true rfl⟩, Nat.le_of_ble_eq_true rfl, Nat.le_of_ble_eq_true rfl⟩ (Nat.le_of_ble_eq_true rfl) dL_tryAdd_4 (Jk_vk 1 6 rfl rfl fun hok4 => ?_)
    cases h
    refine J_wide (k' := 1) (n' := 6) (Nat.le_of_ble_eq_true rfl) (Nat.le_of_ble_eq_true rfl) ?_
    exact J_ireturn dL_tryAdd_7 rfl rfl rfl rfl rfl
  · by_cases c6 : x5 = 1
    · subst c6
      replace h := ifp rfl h
      refine J_callV (g := mi_X3_addCar) (ci := 3) (pc := 4) [.int a1, .int a2, .int a3] [] mv_X3_addCar w_440 (show Con E _ _ _ (.inr "java/lang/IndexOutOfBoundsException") _ from (k_X3_addCar a1 a2 a3 _ hc3)) rfl (by decide) rfl rfl rfl ⟨⟨Nat.le_of_ble_eq_true rfl, Nat.le_of_ble_eq_true rfl⟩, Nat.le_of_ble_eq_true rfl, Nat.le_of_ble_eq_true rfl⟩ (Nat.le_of_ble_eq_true rfl) dL_tryAdd_4 (Jk_catch [] [(0, 7, 13, 30), (0, 7, 18, 16)] (0, 7, 8, 13) rfl (fun z hz => by cases hz) rfl (by decide) w_437 w_453 fun q9 => ?_)
      refine J_astore (pc := 8) dL_tryAdd_8 (Nat.le_of_ble_eq_true rfl) [1, 2, 3, 4, 0] rfl ?_
      refine J_ldc (pc := 10) w_573 dL_tryAdd_10 ?_
      cases h
      refine J_wide (k' := 1) (n' := 6) (Nat.le_of_ble_eq_true rfl) (Nat.le_of_ble_eq_true rfl) ?_
      exact J_ireturn dL_tryAdd_12 rfl rfl rfl rfl rfl
    · replace h := ifn c6 h
      by_cases c7 : x5 = 2
      · subst c7
        replace h := ifp rfl h
        refine J_callV (g := mi_X3_addCar) (ci := 3) (pc := 4) [.int a1, .int a2, .int a3] [] mv_X3_addCar w_440 (show Con E _ _ _ (.inr "java/lang/IllegalArgumentException") _ from (k_X3_addCar a1 a2 a3 _ hc3)) rfl (by decide) rfl rfl rfl ⟨⟨Nat.le_of_ble_eq_true rfl, Nat.le_of_ble_eq_true rfl⟩, Nat.le_of_ble_eq_true rfl, Nat.le_of_ble_eq_true rfl⟩ (Nat.le_of_ble_eq_true rfl) dL_tryAdd_4 (Jk_catch [(0, 7, 8, 13)] [(0, 7, 18, 16)] (0, 7, 13, 30) rfl (List.forall_mem_cons.mpr ⟨⟨by decide, _, w_437, by decide⟩, (fun z hz => by cases hz)⟩) rfl (by decide) w_438 w_521 fun q9 => ?_)
        refine J_astore (pc := 13) dL_tryAdd_13 (Nat.le_of_ble_eq_true rfl) [1, 2, 3, 4, 0] rfl ?_
        refine J_ldc (pc := 15) w_574 dL_tryAdd_15 ?_
        cases h
        refine J_wide (k' := 1) (n' := 6) (Nat.le_of_ble_eq_true rfl) (Nat.le_of_ble_eq_true rfl) ?_
        exact J_ireturn dL_tryAdd_17 rfl rfl rfl rfl rfl
      · replace h := ifn c7 h
        by_cases c8 : x5 = 3
        · subst c8
          replace h := ifp rfl h
          refine J_callV (g := mi_X3_addCar) (ci := 3) (pc := 4) [.int a1, .int a2, .int a3] [] mv_X3_addCar w_440 (show Con E _ _ _ (.inr "java/lang/IllegalStateException") _ from (k_X3_addCar a1 a2 a3 _ hc3)) rfl (by decide) rfl rfl rfl ⟨⟨Nat.le_of_ble_eq_true rfl, Nat.le_of_ble_eq_true rfl⟩, Nat.le_of_ble_eq_true rfl, Nat.le_of_ble_eq_true rfl⟩ (Nat.le_of_ble_eq_true rfl) dL_tryAdd_4 (Jk_catch [(0, 7, 8, 13), (0, 7, 13, 30)] [] (0, 7, 18, 16) rfl (List.forall_mem_cons.mpr ⟨⟨by decide, _, w_437, by decide⟩, (List.forall_mem_cons.mpr ⟨⟨by decide, _, w_438, by decide⟩, (fun z hz => by cases hz)⟩)⟩) rfl (by decide) w_439 w_537 fun q9 => ?_)
          refine J_astore (pc := 18) dL_tryAdd_18 (Nat.le_of_ble_eq_true rfl) [1, 2, 3, 4, 0] rfl ?_
          refine J_ldc (pc := 20) w_575 dL_tryAdd_20 ?_
          cases h
          refine J_wide (k' := 1) (n' := 6) (Nat.le_of_ble_eq_true rfl) (Nat.le_of_ble_eq_true rfl) ?_
          exact J_ireturn dL_tryAdd_22 rfl rfl rfl rfl rfl
        · replace h := ifn c8 h
          cases h
set_option maxHeartbeats 4000000 in
set_option maxRecDepth 100000 in
theorem k_L_tryDrop {E : En} (M : Wd) {r : Int32} {M' : Wd} (h : F_L_tryDrop M = some (r, M')) : Con E mi_L_tryDrop [.ref 0] M (.inl (some (.int r))) M' := by
  unfold F_L_tryDrop at h
  refine Con.ofH (by decide) rfl (Nat.le_of_ble_eq_true rfl) (fun κ => ?_)
  show J κ E mi_L_tryDrop _ 0 0 [(0, .ref 0)] M 0 []
  refine J_aload_n (pc := 0) dL_tryDrop_0 rfl 0 rfl ?_
  rcases obindX_e h with ⟨v1, M2, hc3, h⟩ | ⟨x5, M2, hc3, h⟩
  · refine J_callV (g := mi_X3_dropLast) (ci := 3) (pc := 1) [] [] mv_X3_dropLast w_579 (k_X3_dropLast _ hc3) rfl (by decide) rfl rfl rfl ⟨⟨Nat.le_of_ble_eq_true rfl, Nat.le_of_ble_eq_true rfl⟩, Nat.le_of_ble_eq_true rfl, Nat.le_of_ble_eq_true rfl⟩ (Nat.le_of_ble_eq_true rfl) dL_tryDrop_1 (Jk_vk 1 6 rfl rfl fun hok4 => ?_)
    cases h
    refine J_wide (k' := 1) (n' := 6) (Nat.le_of_ble_eq_true rfl) (Nat.le_of_ble_eq_true rfl) ?_
    exact J_ireturn dL_tryDrop_4 rfl rfl rfl rfl rfl
  · by_cases c6 : x5 = 3
    · subst c6
      replace h := ifp rfl h
      refine J_callV (g := mi_X3_dropLast) (ci := 3) (pc := 1) [] [] mv_X3_dropLast w_579 (show Con E _ _ _ (.inr "java/lang/IllegalStateException") _ from (k_X3_dropLast _ hc3)) rfl (by decide) rfl rfl rfl ⟨⟨Nat.le_of_ble_eq_true rfl, Nat.le_of_ble_eq_true rfl⟩, Nat.le_of_ble_eq_true rfl, Nat.le_of_ble_eq_true rfl⟩ (Nat.le_of_ble_eq_true rfl) dL_tryDrop_1 (Jk_catch [] [] (0, 4, 5, 16) rfl (fun z hz => by cases hz) rfl (by decide) w_439 w_537 fun q9 => ?_)
      refine J_astore_n (pc := 5) dL_tryDrop_5 rfl (Nat.le_of_ble_eq_true rfl) [1, 0] rfl ?_
      refine J_ldc (pc := 6) w_575 dL_tryDrop_6 ?_
      cases h
      refine J_wide (k' := 1) (n' := 6) (Nat.le_of_ble_eq_true rfl) (Nat.le_of_ble_eq_true rfl) ?_
      exact J_ireturn dL_tryDrop_8 rfl rfl rfl rfl rfl
    · replace h := ifn c6 h
      cases h
set_option maxHeartbeats 4000000 in
set_option maxRecDepth 100000 in
theorem k_L_trySlide {E : En} (a1 : Int32) (a2 : Int32) (M : Wd) {r : Int32} {M' : Wd} (h : F_L_trySlide a1 a2 M = some (r, M')) : Con E mi_L_trySlide [.ref 0, .int a1, .int a2] M (.inl (some (.int r))) M' := by
  unfold F_L_trySlide at h
  refine Con.ofH (by decide) rfl (Nat.le_of_ble_eq_true rfl) (fun κ => ?_)
  show J κ E mi_L_trySlide _ 0 0 [(0, .ref 0), (1, .int a1), (2, .int a2)] M 0 []
  refine J_aload_n (pc := 0) dL_trySlide_0 rfl 0 rfl ?_
  refine J_iload_n (pc := 1) dL_trySlide_1 rfl 1 rfl ?_
  refine J_iload_n (pc := 2) dL_trySlide_2 rfl 2 rfl ?_
  rcases obindX_e h with ⟨v1, M2, hc3, h⟩ | ⟨x5, M2, hc3, h⟩
  · refine J_callV (g := mi_X3_slide) (ci := 3) (pc := 3) [.int a1, .int a2] [] mv_X3_slide w_591 (k_X3_slide a1 a2 _ hc3) rfl (by decide) rfl rfl rfl ⟨⟨Nat.le_of_ble_eq_true rfl, Nat.le_of_ble_eq_true rfl⟩, Nat.le_of_ble_eq_true rfl, Nat.le_of_ble_eq_true rfl⟩ (Nat.le_of_ble_eq_true rfl) dL_trySlide_3 (Jk_vk 2 12 rfl rfl fun hok4 => ?_)
    cases h
    refine J_wide (k' := 2) (n' := 12) (Nat.le_of_ble_eq_true rfl) (Nat.le_of_ble_eq_true rfl) ?_
    exact J_ireturn dL_trySlide_6 rfl rfl rfl rfl rfl
  · by_cases c6 : x5 = 1
    · subst c6
      replace h := ifp rfl h
      refine J_callV (g := mi_X3_slide) (ci := 3) (pc := 3) [.int a1, .int a2] [] mv_X3_slide w_591 (show Con E _ _ _ (.inr "java/lang/IndexOutOfBoundsException") _ from (k_X3_slide a1 a2 _ hc3)) rfl (by decide) rfl rfl rfl ⟨⟨Nat.le_of_ble_eq_true rfl, Nat.le_of_ble_eq_true rfl⟩, Nat.le_of_ble_eq_true rfl, Nat.le_of_ble_eq_true rfl⟩ (Nat.le_of_ble_eq_true rfl) dL_trySlide_3 (Jk_catch [] [(0, 6, 11, 30), (0, 6, 15, 16)] (0, 6, 7, 13) rfl (fun z hz => by cases hz) rfl (by decide) w_437 w_453 fun q9 => ?_)
      refine J_astore_n (pc := 7) dL_trySlide_7 rfl (Nat.le_of_ble_eq_true rfl) [1, 2, 3, 0] rfl ?_
      refine J_ldc (pc := 8) w_573 dL_trySlide_8 ?_
      cases h
      refine J_wide (k' := 2) (n' := 12) (Nat.le_of_ble_eq_true rfl) (Nat.le_of_ble_eq_true rfl) ?_
      exact J_ireturn dL_trySlide_10 rfl rfl rfl rfl rfl
    · replace h := ifn c6 h
      by_cases c7 : x5 = 2
      · subst c7
        replace h := ifp rfl h
        refine J_callV (g := mi_X3_slide) (ci := 3) (pc := 3) [.int a1, .int a2] [] mv_X3_slide w_591 (show Con E _ _ _ (.inr "java/lang/IllegalArgumentException") _ from (k_X3_slide a1 a2 _ hc3)) rfl (by decide) rfl rfl rfl ⟨⟨Nat.le_of_ble_eq_true rfl, Nat.le_of_ble_eq_true rfl⟩, Nat.le_of_ble_eq_true rfl, Nat.le_of_ble_eq_true rfl⟩ (Nat.le_of_ble_eq_true rfl) dL_trySlide_3 (Jk_catch [(0, 6, 7, 13)] [(0, 6, 15, 16)] (0, 6, 11, 30) rfl (List.forall_mem_cons.mpr ⟨⟨by decide, _, w_437, by decide⟩, (fun z hz => by cases hz)⟩) rfl (by decide) w_438 w_521 fun q9 => ?_)
        refine J_astore_n (pc := 11) dL_trySlide_11 rfl (Nat.le_of_ble_eq_true rfl) [1, 2, 3, 0] rfl ?_
        refine J_ldc (pc := 12) w_574 dL_trySlide_12 ?_
        cases h
        refine J_wide (k' := 2) (n' := 12) (Nat.le_of_ble_eq_true rfl) (Nat.le_of_ble_eq_true rfl) ?_
        exact J_ireturn dL_trySlide_14 rfl rfl rfl rfl rfl
      · replace h := ifn c7 h
        by_cases c8 : x5 = 3
        · subst c8
          replace h := ifp rfl h
          refine J_callV (g := mi_X3_slide) (ci := 3) (pc := 3) [.int a1, .int a2] [] mv_X3_slide w_591 (show Con E _ _ _ (.inr "java/lang/IllegalStateException") _ from (k_X3_slide a1 a2 _ hc3)) rfl (by decide) rfl rfl rfl ⟨⟨Nat.le_of_ble_eq_true rfl, Nat.le_of_ble_eq_true rfl⟩, Nat.le_of_ble_eq_true rfl, Nat.le_of_ble_eq_true rfl⟩ (Nat.le_of_ble_eq_true rfl) dL_trySlide_3 (Jk_catch [(0, 6, 7, 13), (0, 6, 11, 30)] [] (0, 6, 15, 16) rfl (List.forall_mem_cons.mpr ⟨⟨by decide, _, w_437, by decide⟩, (List.forall_mem_cons.mpr ⟨⟨by decide, _, w_438, by decide⟩, (fun z hz => by cases hz)⟩)⟩) rfl (by decide) w_439 w_537 fun q9 => ?_)
          refine J_astore_n (pc := 15) dL_trySlide_15 rfl (Nat.le_of_ble_eq_true rfl) [1, 2, 3, 0] rfl ?_
          refine J_ldc (pc := 16) w_575 dL_trySlide_16 ?_
          cases h
          refine J_wide (k' := 2) (n' := 12) (Nat.le_of_ble_eq_true rfl) (Nat.le_of_ble_eq_true rfl) ?_
          exact J_ireturn dL_trySlide_18 rfl rfl rfl rfl rfl
        · replace h := ifn c8 h
          cases h
set_option maxHeartbeats 4000000 in
set_option maxRecDepth 100000 in
theorem k_L_tryTake {E : En} (M : Wd) {r : Int32} {M' : Wd} (h : F_L_tryTake M = some (r, M')) : Con E mi_L_tryTake [.ref 0] M (.inl (some (.int r))) M' := by
  unfold F_L_tryTake at h
  refine Con.ofH (by decide) rfl (Nat.le_of_ble_eq_true rfl) (fun κ => ?_)
  show J κ E mi_L_tryTake _ 0 0 [(0, .ref 0)] M 0 []
  refine J_aload_n (pc := 0) dL_tryTake_0 rfl 0 rfl ?_
  rcases obindX_e h with ⟨v1, M2, hc3, h⟩ | ⟨x5, M2, hc3, h⟩
  · refine J_callV (g := mi_X3_takeBack) (ci := 3) (pc := 1) [] [] mv_X3_takeBack w_608 (k_X3_takeBack _ hc3) rfl (by decide) rfl rfl rfl ⟨⟨Nat.le_of_ble_eq_true rfl, Nat.le_of_ble_eq_true rfl⟩, Nat.le_of_ble_eq_true rfl, Nat.le_of_ble_eq_true rfl⟩ (Nat.le_of_ble_eq_true rfl) dL_tryTake_1 (Jk_vk 1 6 rfl rfl fun hok4 => ?_)
    cases h
    refine J_wide (k' := 1) (n' := 6) (Nat.le_of_ble_eq_true rfl) (Nat.le_of_ble_eq_true rfl) ?_
    exact J_ireturn dL_tryTake_4 rfl rfl rfl rfl rfl
  · by_cases c6 : x5 = 3
    · subst c6
      replace h := ifp rfl h
      refine J_callV (g := mi_X3_takeBack) (ci := 3) (pc := 1) [] [] mv_X3_takeBack w_608 (show Con E _ _ _ (.inr "java/lang/IllegalStateException") _ from (k_X3_takeBack _ hc3)) rfl (by decide) rfl rfl rfl ⟨⟨Nat.le_of_ble_eq_true rfl, Nat.le_of_ble_eq_true rfl⟩, Nat.le_of_ble_eq_true rfl, Nat.le_of_ble_eq_true rfl⟩ (Nat.le_of_ble_eq_true rfl) dL_tryTake_1 (Jk_catch [] [] (0, 4, 5, 16) rfl (fun z hz => by cases hz) rfl (by decide) w_439 w_537 fun q9 => ?_)
      refine J_astore_n (pc := 5) dL_tryTake_5 rfl (Nat.le_of_ble_eq_true rfl) [1, 0] rfl ?_
      refine J_ldc (pc := 6) w_575 dL_tryTake_6 ?_
      cases h
      refine J_wide (k' := 1) (n' := 6) (Nat.le_of_ble_eq_true rfl) (Nat.le_of_ble_eq_true rfl) ?_
      exact J_ireturn dL_tryTake_8 rfl rfl rfl rfl rfl
    · replace h := ifn c6 h
      cases h
set_option maxHeartbeats 4000000 in
set_option maxRecDepth 100000 in
theorem k_L_tryDrive {E : En} (M : Wd) {r : Int32} {M' : Wd} (h : F_L_tryDrive M = some (r, M')) : Con E mi_L_tryDrive [.ref 0] M (.inl (some (.int r))) M' := by
  unfold F_L_tryDrive at h
  refine Con.ofH (by decide) rfl (Nat.le_of_ble_eq_true rfl) (fun κ => ?_)
  show J κ E mi_L_tryDrive _ 0 0 [(0, .ref 0)] M 0 []
  refine J_aload_n (pc := 0) dL_tryDrive_0 rfl 0 rfl ?_
  rcases obindX_e h with ⟨v1, M2, hc3, h⟩ | ⟨x5, M2, hc3, h⟩
  · refine J_callV (g := mi_X3_driveOut) (ci := 3) (pc := 1) [] [] mv_X3_driveOut w_624 (k_X3_driveOut _ hc3) rfl (by decide) rfl rfl rfl ⟨⟨Nat.le_of_ble_eq_true rfl, Nat.le_of_ble_eq_true rfl⟩, Nat.le_of_ble_eq_true rfl, Nat.le_of_ble_eq_true rfl⟩ (Nat.le_of_ble_eq_true rfl) dL_tryDrive_1 (Jk_vk 1 6 rfl rfl fun hok4 => ?_)
    cases h
    refine J_wide (k' := 1) (n' := 6) (Nat.le_of_ble_eq_true rfl) (Nat.le_of_ble_eq_true rfl) ?_
    exact J_ireturn dL_tryDrive_4 rfl rfl rfl rfl rfl
  · by_cases c6 : x5 = 3
    · subst c6
      replace h := ifp rfl h
      refine J_callV (g := mi_X3_driveOut) (ci := 3) (pc := 1) [] [] mv_X3_driveOut w_624 (show Con E _ _ _ (.inr "java/lang/IllegalStateException") _ from (k_X3_driveOut _ hc3)) rfl (by decide) rfl rfl rfl ⟨⟨Nat.le_of_ble_eq_true rfl, Nat.le_of_ble_eq_true rfl⟩, Nat.le_of_ble_eq_true rfl, Nat.le_of_ble_eq_true rfl⟩ (Nat.le_of_ble_eq_true rfl) dL_tryDrive_1 (Jk_catch [] [] (0, 4, 5, 16) rfl (fun z hz => by cases hz) rfl (by decide) w_439 w_537 fun q9 => ?_)
      refine J_astore_n (pc := 5) dL_tryDrive_5 rfl (Nat.le_of_ble_eq_true rfl) [1, 0] rfl ?_
      refine J_ldc (pc := 6) w_575 dL_tryDrive_6 ?_
      cases h
      refine J_wide (k' := 1) (n' := 6) (Nat.le_of_ble_eq_true rfl) (Nat.le_of_ble_eq_true rfl) ?_
      exact J_ireturn dL_tryDrive_8 rfl rfl rfl rfl rfl
    · replace h := ifn c6 h
      cases h
set_option maxHeartbeats 4000000 in
set_option maxRecDepth 100000 in
theorem k_L_tryAppend {E : En} (a1 : Int32) (M : Wd) {r : Int32} {M' : Wd} (h : F_L_tryAppend a1 M = some (r, M')) : Con E mi_L_tryAppend [.ref 0, .int a1] M (.inl (some (.int r))) M' := by
  unfold F_L_tryAppend at h
  refine Con.ofH (by decide) rfl (Nat.le_of_ble_eq_true rfl) (fun κ => ?_)
  show J κ E mi_L_tryAppend _ 0 0 [(0, .ref 0), (1, .int a1)] M 0 []
  refine J_aload_n (pc := 0) dL_tryAppend_0 rfl 0 rfl ?_
  refine J_iload_n (pc := 1) dL_tryAppend_1 rfl 1 rfl ?_
  rcases obindX_e h with ⟨v1, M2, hc3, h⟩ | ⟨x5, M2, hc3, h⟩
  · refine J_callV (g := mi_X3_append) (ci := 3) (pc := 2) [.int a1] [] mv_X3_append w_650 (k_X3_append a1 _ hc3) rfl (by decide) rfl rfl rfl ⟨⟨Nat.le_of_ble_eq_true rfl, Nat.le_of_ble_eq_true rfl⟩, Nat.le_of_ble_eq_true rfl, Nat.le_of_ble_eq_true rfl⟩ (Nat.le_of_ble_eq_true rfl) dL_tryAppend_2 (Jk_vk 1 6 rfl rfl fun hok4 => ?_)
    cases h
    refine J_wide (k' := 1) (n' := 6) (Nat.le_of_ble_eq_true rfl) (Nat.le_of_ble_eq_true rfl) ?_
    exact J_ireturn dL_tryAppend_5 rfl rfl rfl rfl rfl
  · by_cases c6 : x5 = 2
    · subst c6
      replace h := ifp rfl h
      refine J_callV (g := mi_X3_append) (ci := 3) (pc := 2) [.int a1] [] mv_X3_append w_650 (show Con E _ _ _ (.inr "java/lang/IllegalArgumentException") _ from (k_X3_append a1 _ hc3)) rfl (by decide) rfl rfl rfl ⟨⟨Nat.le_of_ble_eq_true rfl, Nat.le_of_ble_eq_true rfl⟩, Nat.le_of_ble_eq_true rfl, Nat.le_of_ble_eq_true rfl⟩ (Nat.le_of_ble_eq_true rfl) dL_tryAppend_2 (Jk_catch [] [(0, 5, 10, 16)] (0, 5, 6, 30) rfl (fun z hz => by cases hz) rfl (by decide) w_438 w_521 fun q9 => ?_)
      refine J_astore_n (pc := 6) dL_tryAppend_6 rfl (Nat.le_of_ble_eq_true rfl) [1, 2, 0] rfl ?_
      refine J_ldc (pc := 7) w_574 dL_tryAppend_7 ?_
      cases h
      refine J_wide (k' := 1) (n' := 6) (Nat.le_of_ble_eq_true rfl) (Nat.le_of_ble_eq_true rfl) ?_
      exact J_ireturn dL_tryAppend_9 rfl rfl rfl rfl rfl
    · replace h := ifn c6 h
      by_cases c7 : x5 = 3
      · subst c7
        replace h := ifp rfl h
        refine J_callV (g := mi_X3_append) (ci := 3) (pc := 2) [.int a1] [] mv_X3_append w_650 (show Con E _ _ _ (.inr "java/lang/IllegalStateException") _ from (k_X3_append a1 _ hc3)) rfl (by decide) rfl rfl rfl ⟨⟨Nat.le_of_ble_eq_true rfl, Nat.le_of_ble_eq_true rfl⟩, Nat.le_of_ble_eq_true rfl, Nat.le_of_ble_eq_true rfl⟩ (Nat.le_of_ble_eq_true rfl) dL_tryAppend_2 (Jk_catch [(0, 5, 6, 30)] [] (0, 5, 10, 16) rfl (List.forall_mem_cons.mpr ⟨⟨by decide, _, w_438, by decide⟩, (fun z hz => by cases hz)⟩) rfl (by decide) w_439 w_537 fun q9 => ?_)
        refine J_astore_n (pc := 10) dL_tryAppend_10 rfl (Nat.le_of_ble_eq_true rfl) [1, 2, 0] rfl ?_
        refine J_ldc (pc := 11) w_575 dL_tryAppend_11 ?_
        cases h
        refine J_wide (k' := 1) (n' := 6) (Nat.le_of_ble_eq_true rfl) (Nat.le_of_ble_eq_true rfl) ?_
        exact J_ireturn dL_tryAppend_13 rfl rfl rfl rfl rfl
      · replace h := ifn c7 h
        cases h
set_option maxHeartbeats 4000000 in
set_option maxRecDepth 100000 in
theorem k_L_tryWork {E : En} (M : Wd) {r : Int32} {M' : Wd} (h : F_L_tryWork M = some (r, M')) : Con E mi_L_tryWork [.ref 0] M (.inl (some (.int r))) M' := by
  unfold F_L_tryWork at h
  refine Con.ofH (by decide) rfl (Nat.le_of_ble_eq_true rfl) (fun κ => ?_)
  show J κ E mi_L_tryWork _ 0 0 [(0, .ref 0)] M 0 []
  refine J_aload_n (pc := 0) dL_tryWork_0 rfl 0 rfl ?_
  rcases obindX_e h with ⟨v1, M2, hc3, h⟩ | ⟨x5, M2, hc3, h⟩
  · refine J_callV (g := mi_X3_work) (ci := 3) (pc := 1) [] [] mv_X3_work w_663 (k_X3_work _ hc3) rfl (by decide) rfl rfl rfl ⟨⟨Nat.le_of_ble_eq_true rfl, Nat.le_of_ble_eq_true rfl⟩, Nat.le_of_ble_eq_true rfl, Nat.le_of_ble_eq_true rfl⟩ (Nat.le_of_ble_eq_true rfl) dL_tryWork_1 (Jk_vk 1 6 rfl rfl fun hok4 => ?_)
    cases h
    refine J_wide (k' := 1) (n' := 6) (Nat.le_of_ble_eq_true rfl) (Nat.le_of_ble_eq_true rfl) ?_
    exact J_ireturn dL_tryWork_4 rfl rfl rfl rfl rfl
  · by_cases c6 : x5 = 2
    · subst c6
      replace h := ifp rfl h
      refine J_callV (g := mi_X3_work) (ci := 3) (pc := 1) [] [] mv_X3_work w_663 (show Con E _ _ _ (.inr "java/lang/IllegalArgumentException") _ from (k_X3_work _ hc3)) rfl (by decide) rfl rfl rfl ⟨⟨Nat.le_of_ble_eq_true rfl, Nat.le_of_ble_eq_true rfl⟩, Nat.le_of_ble_eq_true rfl, Nat.le_of_ble_eq_true rfl⟩ (Nat.le_of_ble_eq_true rfl) dL_tryWork_1 (Jk_catch [] [] (0, 4, 5, 30) rfl (fun z hz => by cases hz) rfl (by decide) w_438 w_521 fun q9 => ?_)
      refine J_astore_n (pc := 5) dL_tryWork_5 rfl (Nat.le_of_ble_eq_true rfl) [1, 0] rfl ?_
      refine J_ldc (pc := 6) w_574 dL_tryWork_6 ?_
      cases h
      refine J_wide (k' := 1) (n' := 6) (Nat.le_of_ble_eq_true rfl) (Nat.le_of_ble_eq_true rfl) ?_
      exact J_ireturn dL_tryWork_8 rfl rfl rfl rfl rfl
    · replace h := ifn c6 h
      cases h
set_option maxHeartbeats 4000000 in
set_option maxRecDepth 100000 in
theorem k_L_tryStop {E : En} (M : Wd) {r : Int32} {M' : Wd} (h : F_L_tryStop M = some (r, M')) : Con E mi_L_tryStop [.ref 0] M (.inl (some (.int r))) M' := by
  unfold F_L_tryStop at h
  refine Con.ofH (by decide) rfl (Nat.le_of_ble_eq_true rfl) (fun κ => ?_)
  show J κ E mi_L_tryStop _ 0 0 [(0, .ref 0)] M 0 []
  refine J_aload_n (pc := 0) dL_tryStop_0 rfl 0 rfl ?_
  rcases obindX_e h with ⟨v1, M2, hc3, h⟩ | ⟨x5, M2, hc3, h⟩
  · refine J_callV (g := mi_X3_stoppedPart) (ci := 3) (pc := 1) [] [] mv_X3_stoppedPart w_746 (k_X3_stoppedPart _ hc3) rfl (by decide) rfl rfl rfl ⟨⟨Nat.le_of_ble_eq_true rfl, Nat.le_of_ble_eq_true rfl⟩, Nat.le_of_ble_eq_true rfl, Nat.le_of_ble_eq_true rfl⟩ (Nat.le_of_ble_eq_true rfl) dL_tryStop_1 (Jk_vk 1 6 rfl rfl fun hok4 => ?_)
    cases h
    refine J_wide (k' := 1) (n' := 6) (Nat.le_of_ble_eq_true rfl) (Nat.le_of_ble_eq_true rfl) ?_
    exact J_ireturn dL_tryStop_4 rfl rfl rfl rfl rfl
  · by_cases c6 : x5 = 3
    · subst c6
      replace h := ifp rfl h
      refine J_callV (g := mi_X3_stoppedPart) (ci := 3) (pc := 1) [] [] mv_X3_stoppedPart w_746 (show Con E _ _ _ (.inr "java/lang/IllegalStateException") _ from (k_X3_stoppedPart _ hc3)) rfl (by decide) rfl rfl rfl ⟨⟨Nat.le_of_ble_eq_true rfl, Nat.le_of_ble_eq_true rfl⟩, Nat.le_of_ble_eq_true rfl, Nat.le_of_ble_eq_true rfl⟩ (Nat.le_of_ble_eq_true rfl) dL_tryStop_1 (Jk_catch [] [] (0, 4, 5, 16) rfl (fun z hz => by cases hz) rfl (by decide) w_439 w_537 fun q9 => ?_)
      refine J_astore_n (pc := 5) dL_tryStop_5 rfl (Nat.le_of_ble_eq_true rfl) [1, 0] rfl ?_
      refine J_ldc (pc := 6) w_575 dL_tryStop_6 ?_
      cases h
      refine J_wide (k' := 1) (n' := 6) (Nat.le_of_ble_eq_true rfl) (Nat.le_of_ble_eq_true rfl) ?_
      exact J_ireturn dL_tryStop_8 rfl rfl rfl rfl rfl
    · replace h := ifn c6 h
      cases h
set_option maxHeartbeats 4000000 in
set_option maxRecDepth 100000 in
theorem k_L_tryUndo {E : En} (M : Wd) {r : Int32} {M' : Wd} (h : F_L_tryUndo M = some (r, M')) : Con E mi_L_tryUndo [.ref 0] M (.inl (some (.int r))) M' := by
  unfold F_L_tryUndo at h
  refine Con.ofH (by decide) rfl (Nat.le_of_ble_eq_true rfl) (fun κ => ?_)
  show J κ E mi_L_tryUndo _ 0 0 [(0, .ref 0)] M 0 []
  refine J_aload_n (pc := 0) dL_tryUndo_0 rfl 0 rfl ?_
  rcases obindX_e h with ⟨v1, M2, hc3, h⟩ | ⟨x5, M2, hc3, h⟩
  · refine J_callV (g := mi_X3_undo) (ci := 3) (pc := 1) [] [] mv_X3_undo w_754 (k_X3_undo _ hc3) rfl (by decide) rfl rfl rfl ⟨⟨Nat.le_of_ble_eq_true rfl, Nat.le_of_ble_eq_true rfl⟩, Nat.le_of_ble_eq_true rfl, Nat.le_of_ble_eq_true rfl⟩ (Nat.le_of_ble_eq_true rfl) dL_tryUndo_1 (Jk_vk 1 6 rfl rfl fun hok4 => ?_)
    cases h
    refine J_wide (k' := 1) (n' := 6) (Nat.le_of_ble_eq_true rfl) (Nat.le_of_ble_eq_true rfl) ?_
    exact J_ireturn dL_tryUndo_4 rfl rfl rfl rfl rfl
  · by_cases c6 : x5 = 3
    · subst c6
      replace h := ifp rfl h
      refine J_callV (g := mi_X3_undo) (ci := 3) (pc := 1) [] [] mv_X3_undo w_754 (show Con E _ _ _ (.inr "java/lang/IllegalStateException") _ from (k_X3_undo _ hc3)) rfl (by decide) rfl rfl rfl ⟨⟨Nat.le_of_ble_eq_true rfl, Nat.le_of_ble_eq_true rfl⟩, Nat.le_of_ble_eq_true rfl, Nat.le_of_ble_eq_true rfl⟩ (Nat.le_of_ble_eq_true rfl) dL_tryUndo_1 (Jk_catch [] [] (0, 4, 5, 16) rfl (fun z hz => by cases hz) rfl (by decide) w_439 w_537 fun q9 => ?_)
      refine J_astore_n (pc := 5) dL_tryUndo_5 rfl (Nat.le_of_ble_eq_true rfl) [1, 0] rfl ?_
      refine J_ldc (pc := 6) w_575 dL_tryUndo_6 ?_
      cases h
      refine J_wide (k' := 1) (n' := 6) (Nat.le_of_ble_eq_true rfl) (Nat.le_of_ble_eq_true rfl) ?_
      exact J_ireturn dL_tryUndo_8 rfl rfl rfl rfl rfl
    · replace h := ifn c6 h
      cases h
set_option maxHeartbeats 4000000 in
set_option maxRecDepth 100000 in
theorem k_L_tryUndo_n {E : En} (M : Wd) {r : Int32} {M' : Wd} (h : F_L_tryUndo_n M = some (r, M')) : Con E mi_L_tryUndo_n [.ref 0] M (.inl (some (.int r))) M' := by
  unfold F_L_tryUndo_n at h
  refine Con.ofH (by decide) rfl (Nat.le_of_ble_eq_true rfl) (fun κ => ?_)
  show J κ E mi_L_tryUndo_n _ 0 0 [(0, .ref 0)] M 0 []
  refine J_aload_n (pc := 0) dL_tryUndo_0 rfl 0 rfl ?_
  obtain ⟨v1, M2, hc3, h⟩ := obind2_e h
  refine J_callV (g := mi_X3_undo_n) (ci := 3) (pc := 1) [] [] mv_X3_undo_n w_754 (k_X3_undo_n  _ hc3) rfl (by decide) rfl rfl rfl ⟨⟨Nat.le_of_ble_eq_true rfl, Nat.le_of_ble_eq_true rfl⟩, Nat.le_of_ble_eq_true rfl, Nat.le_of_ble_eq_true rfl⟩ (Nat.le_of_ble_eq_true rfl) dL_tryUndo_1 (Jk_v rfl rfl fun hok4 => ?_)
  cases h
  exact J_ireturn dL_tryUndo_4 rfl rfl rfl rfl rfl
set_option maxHeartbeats 4000000 in
set_option maxRecDepth 100000 in
theorem k_L_tryBack {E : En} (M : Wd) {r : Int32} {M' : Wd} (h : F_L_tryBack M = some (r, M')) : Con E mi_L_tryBack [.ref 0] M (.inl (some (.int r))) M' := by
  unfold F_L_tryBack at h
  refine Con.ofH (by decide) rfl (Nat.le_of_ble_eq_true rfl) (fun κ => ?_)
  show J κ E mi_L_tryBack _ 0 0 [(0, .ref 0)] M 0 []
  refine J_aload_n (pc := 0) dL_tryBack_0 rfl 0 rfl ?_
  rcases obindX_e h with ⟨v1, M2, hc3, h⟩ | ⟨x5, M2, hc3, h⟩
  · refine J_callV (g := mi_X3_restore) (ci := 3) (pc := 1) [] [] mv_X3_restore w_762 (k_X3_restore _ hc3) rfl (by decide) rfl rfl rfl ⟨⟨Nat.le_of_ble_eq_true rfl, Nat.le_of_ble_eq_true rfl⟩, Nat.le_of_ble_eq_true rfl, Nat.le_of_ble_eq_true rfl⟩ (Nat.le_of_ble_eq_true rfl) dL_tryBack_1 (Jk_vk 1 6 rfl rfl fun hok4 => ?_)
    cases h
    refine J_wide (k' := 1) (n' := 6) (Nat.le_of_ble_eq_true rfl) (Nat.le_of_ble_eq_true rfl) ?_
    exact J_ireturn dL_tryBack_4 rfl rfl rfl rfl rfl
  · by_cases c6 : x5 = 3
    · subst c6
      replace h := ifp rfl h
      refine J_callV (g := mi_X3_restore) (ci := 3) (pc := 1) [] [] mv_X3_restore w_762 (show Con E _ _ _ (.inr "java/lang/IllegalStateException") _ from (k_X3_restore _ hc3)) rfl (by decide) rfl rfl rfl ⟨⟨Nat.le_of_ble_eq_true rfl, Nat.le_of_ble_eq_true rfl⟩, Nat.le_of_ble_eq_true rfl, Nat.le_of_ble_eq_true rfl⟩ (Nat.le_of_ble_eq_true rfl) dL_tryBack_1 (Jk_catch [] [] (0, 4, 5, 16) rfl (fun z hz => by cases hz) rfl (by decide) w_439 w_537 fun q9 => ?_)
      refine J_astore_n (pc := 5) dL_tryBack_5 rfl (Nat.le_of_ble_eq_true rfl) [1, 0] rfl ?_
      refine J_ldc (pc := 6) w_575 dL_tryBack_6 ?_
      cases h
      refine J_wide (k' := 1) (n' := 6) (Nat.le_of_ble_eq_true rfl) (Nat.le_of_ble_eq_true rfl) ?_
      exact J_ireturn dL_tryBack_8 rfl rfl rfl rfl rfl
    · replace h := ifn c6 h
      cases h
set_option maxHeartbeats 4000000 in
set_option maxRecDepth 100000 in
theorem k_L_tryLane {E : En} (a1 : Int32) (M : Wd) {r : Int32} {M' : Wd} (h : F_L_tryLane a1 M = some (r, M')) : Con E mi_L_tryLane [.ref 0, .int a1] M (.inl (some (.int r))) M' := by
  unfold F_L_tryLane at h
  refine Con.ofH (by decide) rfl (Nat.le_of_ble_eq_true rfl) (fun κ => ?_)
  show J κ E mi_L_tryLane _ 0 0 [(0, .ref 0), (1, .int a1)] M 0 []
  refine J_aload_n (pc := 0) dL_tryLane_0 rfl 0 rfl ?_
  refine J_iload_n (pc := 1) dL_tryLane_1 rfl 1 rfl ?_
  rcases obindX_e h with ⟨v1, M2, hc3, h⟩ | ⟨x5, M2, hc3, h⟩
  · refine J_callV (g := mi_X3_laneOf) (ci := 3) (pc := 2) [.int a1] [] mv_X3_laneOf w_770 (k_X3_laneOf a1 _ hc3) rfl (by decide) rfl rfl rfl ⟨⟨Nat.le_of_ble_eq_true rfl, Nat.le_of_ble_eq_true rfl⟩, Nat.le_of_ble_eq_true rfl, Nat.le_of_ble_eq_true rfl⟩ (Nat.le_of_ble_eq_true rfl) dL_tryLane_2 (Jk_vk 1 6 rfl rfl fun hok4 => ?_)
    cases h
    refine J_wide (k' := 1) (n' := 6) (Nat.le_of_ble_eq_true rfl) (Nat.le_of_ble_eq_true rfl) ?_
    exact J_ireturn dL_tryLane_5 rfl rfl rfl rfl rfl
  · by_cases c6 : x5 = 1
    · subst c6
      replace h := ifp rfl h
      refine J_callV (g := mi_X3_laneOf) (ci := 3) (pc := 2) [.int a1] [] mv_X3_laneOf w_770 (show Con E _ _ _ (.inr "java/lang/IndexOutOfBoundsException") _ from (k_X3_laneOf a1 _ hc3)) rfl (by decide) rfl rfl rfl ⟨⟨Nat.le_of_ble_eq_true rfl, Nat.le_of_ble_eq_true rfl⟩, Nat.le_of_ble_eq_true rfl, Nat.le_of_ble_eq_true rfl⟩ (Nat.le_of_ble_eq_true rfl) dL_tryLane_2 (Jk_catch [] [] (0, 5, 6, 13) rfl (fun z hz => by cases hz) rfl (by decide) w_437 w_453 fun q9 => ?_)
      refine J_astore_n (pc := 6) dL_tryLane_6 rfl (Nat.le_of_ble_eq_true rfl) [1, 2, 0] rfl ?_
      refine J_ldc (pc := 7) w_573 dL_tryLane_7 ?_
      cases h
      refine J_wide (k' := 1) (n' := 6) (Nat.le_of_ble_eq_true rfl) (Nat.le_of_ble_eq_true rfl) ?_
      exact J_ireturn dL_tryLane_9 rfl rfl rfl rfl rfl
    · replace h := ifn c6 h
      cases h
set_option maxHeartbeats 4000000 in
set_option maxRecDepth 100000 in
theorem k_L_tryLane_n {E : En} (a1 : Int32) (M : Wd) {r : Int32} (h : F_L_tryLane_n a1 M = some r) : Con E mi_L_tryLane_n [.ref 0, .int a1] M (.inl (some (.int r))) M := by
  unfold F_L_tryLane_n at h
  refine Con.ofH (by decide) rfl (Nat.le_of_ble_eq_true rfl) (fun κ => ?_)
  show J κ E mi_L_tryLane_n _ 0 0 [(0, .ref 0), (1, .int a1)] M 0 []
  refine J_aload_n (pc := 0) dL_tryLane_0 rfl 0 rfl ?_
  refine J_iload_n (pc := 1) dL_tryLane_1 rfl 1 rfl ?_
  obtain ⟨v1, hc2, h⟩ := obind_e h
  refine J_callV (g := mi_X3_laneOf_n) (ci := 3) (pc := 2) [.int a1] [] mv_X3_laneOf_n w_770 (k_X3_laneOf_n  a1 _ hc2) rfl (by decide) rfl rfl rfl ⟨⟨Nat.le_of_ble_eq_true rfl, Nat.le_of_ble_eq_true rfl⟩, Nat.le_of_ble_eq_true rfl, Nat.le_of_ble_eq_true rfl⟩ (Nat.le_of_ble_eq_true rfl) dL_tryLane_2 (Jk_v rfl rfl fun hok3 => ?_)
  cases h
  exact J_ireturn dL_tryLane_5 rfl rfl rfl rfl rfl
set_option maxHeartbeats 4000000 in
set_option maxRecDepth 100000 in
theorem k_L_tryPlace {E : En} (a1 : Int32) (M : Wd) {r : Int32} {M' : Wd} (h : F_L_tryPlace a1 M = some (r, M')) : Con E mi_L_tryPlace [.ref 0, .int a1] M (.inl (some (.int r))) M' := by
  unfold F_L_tryPlace at h
  refine Con.ofH (by decide) rfl (Nat.le_of_ble_eq_true rfl) (fun κ => ?_)
  show J κ E mi_L_tryPlace _ 0 0 [(0, .ref 0), (1, .int a1)] M 0 []
  refine J_aload_n (pc := 0) dL_tryPlace_0 rfl 0 rfl ?_
  refine J_iload_n (pc := 1) dL_tryPlace_1 rfl 1 rfl ?_
  rcases obindX_e h with ⟨v1, M2, hc3, h⟩ | ⟨x5, M2, hc3, h⟩
  · refine J_callV (g := mi_X3_placeOf) (ci := 3) (pc := 2) [.int a1] [] mv_X3_placeOf w_779 (k_X3_placeOf a1 _ hc3) rfl (by decide) rfl rfl rfl ⟨⟨Nat.le_of_ble_eq_true rfl, Nat.le_of_ble_eq_true rfl⟩, Nat.le_of_ble_eq_true rfl, Nat.le_of_ble_eq_true rfl⟩ (Nat.le_of_ble_eq_true rfl) dL_tryPlace_2 (Jk_vk 1 6 rfl rfl fun hok4 => ?_)
    cases h
    refine J_wide (k' := 1) (n' := 6) (Nat.le_of_ble_eq_true rfl) (Nat.le_of_ble_eq_true rfl) ?_
    exact J_ireturn dL_tryPlace_5 rfl rfl rfl rfl rfl
  · by_cases c6 : x5 = 1
    · subst c6
      replace h := ifp rfl h
      refine J_callV (g := mi_X3_placeOf) (ci := 3) (pc := 2) [.int a1] [] mv_X3_placeOf w_779 (show Con E _ _ _ (.inr "java/lang/IndexOutOfBoundsException") _ from (k_X3_placeOf a1 _ hc3)) rfl (by decide) rfl rfl rfl ⟨⟨Nat.le_of_ble_eq_true rfl, Nat.le_of_ble_eq_true rfl⟩, Nat.le_of_ble_eq_true rfl, Nat.le_of_ble_eq_true rfl⟩ (Nat.le_of_ble_eq_true rfl) dL_tryPlace_2 (Jk_catch [] [] (0, 5, 6, 13) rfl (fun z hz => by cases hz) rfl (by decide) w_437 w_453 fun q9 => ?_)
      refine J_astore_n (pc := 6) dL_tryPlace_6 rfl (Nat.le_of_ble_eq_true rfl) [1, 2, 0] rfl ?_
      refine J_ldc (pc := 7) w_573 dL_tryPlace_7 ?_
      cases h
      refine J_wide (k' := 1) (n' := 6) (Nat.le_of_ble_eq_true rfl) (Nat.le_of_ble_eq_true rfl) ?_
      exact J_ireturn dL_tryPlace_9 rfl rfl rfl rfl rfl
    · replace h := ifn c6 h
      cases h
set_option maxHeartbeats 4000000 in
set_option maxRecDepth 100000 in
theorem k_L_tryPlace_n {E : En} (a1 : Int32) (M : Wd) {r : Int32} (h : F_L_tryPlace_n a1 M = some r) : Con E mi_L_tryPlace_n [.ref 0, .int a1] M (.inl (some (.int r))) M := by
  unfold F_L_tryPlace_n at h
  refine Con.ofH (by decide) rfl (Nat.le_of_ble_eq_true rfl) (fun κ => ?_)
  show J κ E mi_L_tryPlace_n _ 0 0 [(0, .ref 0), (1, .int a1)] M 0 []
  refine J_aload_n (pc := 0) dL_tryPlace_0 rfl 0 rfl ?_
  refine J_iload_n (pc := 1) dL_tryPlace_1 rfl 1 rfl ?_
  obtain ⟨v1, hc2, h⟩ := obind_e h
  refine J_callV (g := mi_X3_placeOf_n) (ci := 3) (pc := 2) [.int a1] [] mv_X3_placeOf_n w_779 (k_X3_placeOf_n  a1 _ hc2) rfl (by decide) rfl rfl rfl ⟨⟨Nat.le_of_ble_eq_true rfl, Nat.le_of_ble_eq_true rfl⟩, Nat.le_of_ble_eq_true rfl, Nat.le_of_ble_eq_true rfl⟩ (Nat.le_of_ble_eq_true rfl) dL_tryPlace_2 (Jk_v rfl rfl fun hok3 => ?_)
  cases h
  exact J_ireturn dL_tryPlace_5 rfl rfl rfl rfl rfl
set_option maxHeartbeats 4000000 in
set_option maxRecDepth 100000 in
theorem k_L_tryLength {E : En} (a1 : Int32) (M : Wd) {r : Int32} {M' : Wd} (h : F_L_tryLength a1 M = some (r, M')) : Con E mi_L_tryLength [.ref 0, .int a1] M (.inl (some (.int r))) M' := by
  unfold F_L_tryLength at h
  refine Con.ofH (by decide) rfl (Nat.le_of_ble_eq_true rfl) (fun κ => ?_)
  show J κ E mi_L_tryLength _ 0 0 [(0, .ref 0), (1, .int a1)] M 0 []
  refine J_aload_n (pc := 0) dL_tryLength_0 rfl 0 rfl ?_
  refine J_iload_n (pc := 1) dL_tryLength_1 rfl 1 rfl ?_
  rcases obindX_e h with ⟨v1, M2, hc3, h⟩ | ⟨x5, M2, hc3, h⟩
  · refine J_callV (g := mi_X3_lengthOf) (ci := 3) (pc := 2) [.int a1] [] mv_X3_lengthOf w_786 (k_X3_lengthOf a1 _ hc3) rfl (by decide) rfl rfl rfl ⟨⟨Nat.le_of_ble_eq_true rfl, Nat.le_of_ble_eq_true rfl⟩, Nat.le_of_ble_eq_true rfl, Nat.le_of_ble_eq_true rfl⟩ (Nat.le_of_ble_eq_true rfl) dL_tryLength_2 (Jk_vk 1 6 rfl rfl fun hok4 => ?_)
    cases h
    refine J_wide (k' := 1) (n' := 6) (Nat.le_of_ble_eq_true rfl) (Nat.le_of_ble_eq_true rfl) ?_
    exact J_ireturn dL_tryLength_5 rfl rfl rfl rfl rfl
  · by_cases c6 : x5 = 1
    · subst c6
      replace h := ifp rfl h
      refine J_callV (g := mi_X3_lengthOf) (ci := 3) (pc := 2) [.int a1] [] mv_X3_lengthOf w_786 (show Con E _ _ _ (.inr "java/lang/IndexOutOfBoundsException") _ from (k_X3_lengthOf a1 _ hc3)) rfl (by decide) rfl rfl rfl ⟨⟨Nat.le_of_ble_eq_true rfl, Nat.le_of_ble_eq_true rfl⟩, Nat.le_of_ble_eq_true rfl, Nat.le_of_ble_eq_true rfl⟩ (Nat.le_of_ble_eq_true rfl) dL_tryLength_2 (Jk_catch [] [] (0, 5, 6, 13) rfl (fun z hz => by cases hz) rfl (by decide) w_437 w_453 fun q9 => ?_)
      refine J_astore_n (pc := 6) dL_tryLength_6 rfl (Nat.le_of_ble_eq_true rfl) [1, 2, 0] rfl ?_
      refine J_ldc (pc := 7) w_573 dL_tryLength_7 ?_
      cases h
      refine J_wide (k' := 1) (n' := 6) (Nat.le_of_ble_eq_true rfl) (Nat.le_of_ble_eq_true rfl) ?_
      exact J_ireturn dL_tryLength_9 rfl rfl rfl rfl rfl
    · replace h := ifn c6 h
      cases h
set_option maxHeartbeats 4000000 in
set_option maxRecDepth 100000 in
theorem k_L_tryLength_n {E : En} (a1 : Int32) (M : Wd) {r : Int32} (h : F_L_tryLength_n a1 M = some r) : Con E mi_L_tryLength_n [.ref 0, .int a1] M (.inl (some (.int r))) M := by
  unfold F_L_tryLength_n at h
  refine Con.ofH (by decide) rfl (Nat.le_of_ble_eq_true rfl) (fun κ => ?_)
  show J κ E mi_L_tryLength_n _ 0 0 [(0, .ref 0), (1, .int a1)] M 0 []
  refine J_aload_n (pc := 0) dL_tryLength_0 rfl 0 rfl ?_
  refine J_iload_n (pc := 1) dL_tryLength_1 rfl 1 rfl ?_
  obtain ⟨v1, hc2, h⟩ := obind_e h
  refine J_callV (g := mi_X3_lengthOf_n) (ci := 3) (pc := 2) [.int a1] [] mv_X3_lengthOf_n w_786 (k_X3_lengthOf_n  a1 _ hc2) rfl (by decide) rfl rfl rfl ⟨⟨Nat.le_of_ble_eq_true rfl, Nat.le_of_ble_eq_true rfl⟩, Nat.le_of_ble_eq_true rfl, Nat.le_of_ble_eq_true rfl⟩ (Nat.le_of_ble_eq_true rfl) dL_tryLength_2 (Jk_v rfl rfl fun hok3 => ?_)
  cases h
  exact J_ireturn dL_tryLength_5 rfl rfl rfl rfl rfl
set_option maxHeartbeats 4000000 in
set_option maxRecDepth 100000 in
theorem k_L_tryOn {E : En} (a1 : Int32) (M : Wd) {r : Int32} {M' : Wd} (h : F_L_tryOn a1 M = some (r, M')) : Con E mi_L_tryOn [.ref 0, .int a1] M (.inl (some (.int r))) M' := by
  unfold F_L_tryOn at h
  refine Con.ofH (by decide) rfl (Nat.le_of_ble_eq_true rfl) (fun κ => ?_)
  show J κ E mi_L_tryOn _ 0 0 [(0, .ref 0), (1, .int a1)] M 0 []
  refine J_aload_n (pc := 0) dL_tryOn_0 rfl 0 rfl ?_
  refine J_iload_n (pc := 1) dL_tryOn_1 rfl 1 rfl ?_
  rcases obindX_e h with ⟨v1, M2, hc3, h⟩ | ⟨x5, M2, hc3, h⟩
  · refine J_callV (g := mi_X3_carOn) (ci := 3) (pc := 2) [.int a1] [] mv_X3_carOn w_793 (k_X3_carOn a1 _ hc3) rfl (by decide) rfl rfl rfl ⟨⟨Nat.le_of_ble_eq_true rfl, Nat.le_of_ble_eq_true rfl⟩, Nat.le_of_ble_eq_true rfl, Nat.le_of_ble_eq_true rfl⟩ (Nat.le_of_ble_eq_true rfl) dL_tryOn_2 (Jk_vk 1 6 rfl rfl fun hok4 => ?_)
    cases h
    refine J_wide (k' := 1) (n' := 6) (Nat.le_of_ble_eq_true rfl) (Nat.le_of_ble_eq_true rfl) ?_
    exact J_ireturn dL_tryOn_5 rfl rfl rfl rfl rfl
  · by_cases c6 : x5 = 1
    · subst c6
      replace h := ifp rfl h
      refine J_callV (g := mi_X3_carOn) (ci := 3) (pc := 2) [.int a1] [] mv_X3_carOn w_793 (show Con E _ _ _ (.inr "java/lang/IndexOutOfBoundsException") _ from (k_X3_carOn a1 _ hc3)) rfl (by decide) rfl rfl rfl ⟨⟨Nat.le_of_ble_eq_true rfl, Nat.le_of_ble_eq_true rfl⟩, Nat.le_of_ble_eq_true rfl, Nat.le_of_ble_eq_true rfl⟩ (Nat.le_of_ble_eq_true rfl) dL_tryOn_2 (Jk_catch [] [] (0, 5, 6, 13) rfl (fun z hz => by cases hz) rfl (by decide) w_437 w_453 fun q9 => ?_)
      refine J_astore_n (pc := 6) dL_tryOn_6 rfl (Nat.le_of_ble_eq_true rfl) [1, 2, 0] rfl ?_
      refine J_ldc (pc := 7) w_573 dL_tryOn_7 ?_
      cases h
      refine J_wide (k' := 1) (n' := 6) (Nat.le_of_ble_eq_true rfl) (Nat.le_of_ble_eq_true rfl) ?_
      exact J_ireturn dL_tryOn_9 rfl rfl rfl rfl rfl
    · replace h := ifn c6 h
      cases h
set_option maxHeartbeats 4000000 in
set_option maxRecDepth 100000 in
theorem k_L_tryOn_n {E : En} (a1 : Int32) (M : Wd) {r : Int32} (h : F_L_tryOn_n a1 M = some r) : Con E mi_L_tryOn_n [.ref 0, .int a1] M (.inl (some (.int r))) M := by
  unfold F_L_tryOn_n at h
  refine Con.ofH (by decide) rfl (Nat.le_of_ble_eq_true rfl) (fun κ => ?_)
  show J κ E mi_L_tryOn_n _ 0 0 [(0, .ref 0), (1, .int a1)] M 0 []
  refine J_aload_n (pc := 0) dL_tryOn_0 rfl 0 rfl ?_
  refine J_iload_n (pc := 1) dL_tryOn_1 rfl 1 rfl ?_
  obtain ⟨v1, hc2, h⟩ := obind_e h
  refine J_callV (g := mi_X3_carOn_n) (ci := 3) (pc := 2) [.int a1] [] mv_X3_carOn_n w_793 (k_X3_carOn_n  a1 _ hc2) rfl (by decide) rfl rfl rfl ⟨⟨Nat.le_of_ble_eq_true rfl, Nat.le_of_ble_eq_true rfl⟩, Nat.le_of_ble_eq_true rfl, Nat.le_of_ble_eq_true rfl⟩ (Nat.le_of_ble_eq_true rfl) dL_tryOn_2 (Jk_v rfl rfl fun hok3 => ?_)
  cases h
  exact J_ireturn dL_tryOn_5 rfl rfl rfl rfl rfl
set_option maxHeartbeats 4000000 in
set_option maxRecDepth 100000 in
theorem k_L_tryLogCar {E : En} (a1 : Int32) (M : Wd) {r : Int32} {M' : Wd} (h : F_L_tryLogCar a1 M = some (r, M')) : Con E mi_L_tryLogCar [.ref 0, .int a1] M (.inl (some (.int r))) M' := by
  unfold F_L_tryLogCar at h
  refine Con.ofH (by decide) rfl (Nat.le_of_ble_eq_true rfl) (fun κ => ?_)
  show J κ E mi_L_tryLogCar _ 0 0 [(0, .ref 0), (1, .int a1)] M 0 []
  refine J_aload_n (pc := 0) dL_tryLogCar_0 rfl 0 rfl ?_
  refine J_iload_n (pc := 1) dL_tryLogCar_1 rfl 1 rfl ?_
  rcases obindX_e h with ⟨v1, M2, hc3, h⟩ | ⟨x5, M2, hc3, h⟩
  · refine J_callV (g := mi_X3_carOfSlide) (ci := 3) (pc := 2) [.int a1] [] mv_X3_carOfSlide w_802 (k_X3_carOfSlide a1 _ hc3) rfl (by decide) rfl rfl rfl ⟨⟨Nat.le_of_ble_eq_true rfl, Nat.le_of_ble_eq_true rfl⟩, Nat.le_of_ble_eq_true rfl, Nat.le_of_ble_eq_true rfl⟩ (Nat.le_of_ble_eq_true rfl) dL_tryLogCar_2 (Jk_vk 1 6 rfl rfl fun hok4 => ?_)
    cases h
    refine J_wide (k' := 1) (n' := 6) (Nat.le_of_ble_eq_true rfl) (Nat.le_of_ble_eq_true rfl) ?_
    exact J_ireturn dL_tryLogCar_5 rfl rfl rfl rfl rfl
  · by_cases c6 : x5 = 1
    · subst c6
      replace h := ifp rfl h
      refine J_callV (g := mi_X3_carOfSlide) (ci := 3) (pc := 2) [.int a1] [] mv_X3_carOfSlide w_802 (show Con E _ _ _ (.inr "java/lang/IndexOutOfBoundsException") _ from (k_X3_carOfSlide a1 _ hc3)) rfl (by decide) rfl rfl rfl ⟨⟨Nat.le_of_ble_eq_true rfl, Nat.le_of_ble_eq_true rfl⟩, Nat.le_of_ble_eq_true rfl, Nat.le_of_ble_eq_true rfl⟩ (Nat.le_of_ble_eq_true rfl) dL_tryLogCar_2 (Jk_catch [] [] (0, 5, 6, 13) rfl (fun z hz => by cases hz) rfl (by decide) w_437 w_453 fun q9 => ?_)
      refine J_astore_n (pc := 6) dL_tryLogCar_6 rfl (Nat.le_of_ble_eq_true rfl) [1, 2, 0] rfl ?_
      refine J_ldc (pc := 7) w_573 dL_tryLogCar_7 ?_
      cases h
      refine J_wide (k' := 1) (n' := 6) (Nat.le_of_ble_eq_true rfl) (Nat.le_of_ble_eq_true rfl) ?_
      exact J_ireturn dL_tryLogCar_9 rfl rfl rfl rfl rfl
    · replace h := ifn c6 h
      cases h
set_option maxHeartbeats 4000000 in
set_option maxRecDepth 100000 in
theorem k_L_tryLogCar_n {E : En} (a1 : Int32) (M : Wd) {r : Int32} (h : F_L_tryLogCar_n a1 M = some r) : Con E mi_L_tryLogCar_n [.ref 0, .int a1] M (.inl (some (.int r))) M := by
  unfold F_L_tryLogCar_n at h
  refine Con.ofH (by decide) rfl (Nat.le_of_ble_eq_true rfl) (fun κ => ?_)
  show J κ E mi_L_tryLogCar_n _ 0 0 [(0, .ref 0), (1, .int a1)] M 0 []
  refine J_aload_n (pc := 0) dL_tryLogCar_0 rfl 0 rfl ?_
  refine J_iload_n (pc := 1) dL_tryLogCar_1 rfl 1 rfl ?_
  obtain ⟨v1, hc2, h⟩ := obind_e h
  refine J_callV (g := mi_X3_carOfSlide_n) (ci := 3) (pc := 2) [.int a1] [] mv_X3_carOfSlide_n w_802 (k_X3_carOfSlide_n  a1 _ hc2) rfl (by decide) rfl rfl rfl ⟨⟨Nat.le_of_ble_eq_true rfl, Nat.le_of_ble_eq_true rfl⟩, Nat.le_of_ble_eq_true rfl, Nat.le_of_ble_eq_true rfl⟩ (Nat.le_of_ble_eq_true rfl) dL_tryLogCar_2 (Jk_v rfl rfl fun hok3 => ?_)
  cases h
  exact J_ireturn dL_tryLogCar_5 rfl rfl rfl rfl rfl
set_option maxHeartbeats 4000000 in
set_option maxRecDepth 100000 in
theorem k_L_tryLogBy {E : En} (a1 : Int32) (M : Wd) {r : Int32} {M' : Wd} (h : F_L_tryLogBy a1 M = some (r, M')) : Con E mi_L_tryLogBy [.ref 0, .int a1] M (.inl (some (.int r))) M' := by
  unfold F_L_tryLogBy at h
  refine Con.ofH (by decide) rfl (Nat.le_of_ble_eq_true rfl) (fun κ => ?_)
  show J κ E mi_L_tryLogBy _ 0 0 [(0, .ref 0), (1, .int a1)] M 0 []
  refine J_aload_n (pc := 0) dL_tryLogBy_0 rfl 0 rfl ?_
  refine J_iload_n (pc := 1) dL_tryLogBy_1 rfl 1 rfl ?_
  rcases obindX_e h with ⟨v1, M2, hc3, h⟩ | ⟨x5, M2, hc3, h⟩
  · refine J_callV (g := mi_X3_changeBySlide) (ci := 3) (pc := 2) [.int a1] [] mv_X3_changeBySlide w_811 (k_X3_changeBySlide a1 _ hc3) rfl (by decide) rfl rfl rfl ⟨⟨Nat.le_of_ble_eq_true rfl, Nat.le_of_ble_eq_true rfl⟩, Nat.le_of_ble_eq_true rfl, Nat.le_of_ble_eq_true rfl⟩ (Nat.le_of_ble_eq_true rfl) dL_tryLogBy_2 (Jk_vk 1 6 rfl rfl fun hok4 => ?_)
    cases h
    refine J_wide (k' := 1) (n' := 6) (Nat.le_of_ble_eq_true rfl) (Nat.le_of_ble_eq_true rfl) ?_
    exact J_ireturn dL_tryLogBy_5 rfl rfl rfl rfl rfl
  · by_cases c6 : x5 = 1
    · subst c6
      replace h := ifp rfl h
      refine J_callV (g := mi_X3_changeBySlide) (ci := 3) (pc := 2) [.int a1] [] mv_X3_changeBySlide w_811 (show Con E _ _ _ (.inr "java/lang/IndexOutOfBoundsException") _ from (k_X3_changeBySlide a1 _ hc3)) rfl (by decide) rfl rfl rfl ⟨⟨Nat.le_of_ble_eq_true rfl, Nat.le_of_ble_eq_true rfl⟩, Nat.le_of_ble_eq_true rfl, Nat.le_of_ble_eq_true rfl⟩ (Nat.le_of_ble_eq_true rfl) dL_tryLogBy_2 (Jk_catch [] [] (0, 5, 6, 13) rfl (fun z hz => by cases hz) rfl (by decide) w_437 w_453 fun q9 => ?_)
      refine J_astore_n (pc := 6) dL_tryLogBy_6 rfl (Nat.le_of_ble_eq_true rfl) [1, 2, 0] rfl ?_
      refine J_ldc (pc := 7) w_573 dL_tryLogBy_7 ?_
      cases h
      refine J_wide (k' := 1) (n' := 6) (Nat.le_of_ble_eq_true rfl) (Nat.le_of_ble_eq_true rfl) ?_
      exact J_ireturn dL_tryLogBy_9 rfl rfl rfl rfl rfl
    · replace h := ifn c6 h
      cases h
set_option maxHeartbeats 4000000 in
set_option maxRecDepth 100000 in
theorem k_L_tryLogBy_n {E : En} (a1 : Int32) (M : Wd) {r : Int32} (h : F_L_tryLogBy_n a1 M = some r) : Con E mi_L_tryLogBy_n [.ref 0, .int a1] M (.inl (some (.int r))) M := by
  unfold F_L_tryLogBy_n at h
  refine Con.ofH (by decide) rfl (Nat.le_of_ble_eq_true rfl) (fun κ => ?_)
  show J κ E mi_L_tryLogBy_n _ 0 0 [(0, .ref 0), (1, .int a1)] M 0 []
  refine J_aload_n (pc := 0) dL_tryLogBy_0 rfl 0 rfl ?_
  refine J_iload_n (pc := 1) dL_tryLogBy_1 rfl 1 rfl ?_
  obtain ⟨v1, hc2, h⟩ := obind_e h
  refine J_callV (g := mi_X3_changeBySlide_n) (ci := 3) (pc := 2) [.int a1] [] mv_X3_changeBySlide_n w_811 (k_X3_changeBySlide_n  a1 _ hc2) rfl (by decide) rfl rfl rfl ⟨⟨Nat.le_of_ble_eq_true rfl, Nat.le_of_ble_eq_true rfl⟩, Nat.le_of_ble_eq_true rfl, Nat.le_of_ble_eq_true rfl⟩ (Nat.le_of_ble_eq_true rfl) dL_tryLogBy_2 (Jk_v rfl rfl fun hok3 => ?_)
  cases h
  exact J_ireturn dL_tryLogBy_5 rfl rfl rfl rfl rfl
set_option maxHeartbeats 4000000 in
set_option maxRecDepth 100000 in
theorem k_L_trySteps {E : En} (a1 : Int32) (M : Wd) {r : Int32} {M' : Wd} (h : F_L_trySteps a1 M = some (r, M')) : Con E mi_L_trySteps [.ref 0, .int a1] M (.inl (some (.int r))) M' := by
  unfold F_L_trySteps at h
  refine Con.ofH (by decide) rfl (Nat.le_of_ble_eq_true rfl) (fun κ => ?_)
  show J κ E mi_L_trySteps _ 0 0 [(0, .ref 0), (1, .int a1)] M 0 []
  refine J_aload_n (pc := 0) dL_trySteps_0 rfl 0 rfl ?_
  refine J_iload_n (pc := 1) dL_trySteps_1 rfl 1 rfl ?_
  rcases obindX_e h with ⟨v1, M2, hc3, h⟩ | ⟨x5, M2, hc3, h⟩
  · refine J_callV (g := mi_X3_stepsOf) (ci := 3) (pc := 2) [.int a1] [] mv_X3_stepsOf w_818 (k_X3_stepsOf a1 _ hc3) rfl (by decide) rfl rfl rfl ⟨⟨Nat.le_of_ble_eq_true rfl, Nat.le_of_ble_eq_true rfl⟩, Nat.le_of_ble_eq_true rfl, Nat.le_of_ble_eq_true rfl⟩ (Nat.le_of_ble_eq_true rfl) dL_trySteps_2 (Jk_vk 1 6 rfl rfl fun hok4 => ?_)
    cases h
    refine J_wide (k' := 1) (n' := 6) (Nat.le_of_ble_eq_true rfl) (Nat.le_of_ble_eq_true rfl) ?_
    exact J_ireturn dL_trySteps_5 rfl rfl rfl rfl rfl
  · by_cases c6 : x5 = 1
    · subst c6
      replace h := ifp rfl h
      refine J_callV (g := mi_X3_stepsOf) (ci := 3) (pc := 2) [.int a1] [] mv_X3_stepsOf w_818 (show Con E _ _ _ (.inr "java/lang/IndexOutOfBoundsException") _ from (k_X3_stepsOf a1 _ hc3)) rfl (by decide) rfl rfl rfl ⟨⟨Nat.le_of_ble_eq_true rfl, Nat.le_of_ble_eq_true rfl⟩, Nat.le_of_ble_eq_true rfl, Nat.le_of_ble_eq_true rfl⟩ (Nat.le_of_ble_eq_true rfl) dL_trySteps_2 (Jk_catch [] [] (0, 5, 6, 13) rfl (fun z hz => by cases hz) rfl (by decide) w_437 w_453 fun q9 => ?_)
      refine J_astore_n (pc := 6) dL_trySteps_6 rfl (Nat.le_of_ble_eq_true rfl) [1, 2, 0] rfl ?_
      refine J_ldc (pc := 7) w_573 dL_trySteps_7 ?_
      cases h
      refine J_wide (k' := 1) (n' := 6) (Nat.le_of_ble_eq_true rfl) (Nat.le_of_ble_eq_true rfl) ?_
      exact J_ireturn dL_trySteps_9 rfl rfl rfl rfl rfl
    · replace h := ifn c6 h
      cases h
set_option maxHeartbeats 4000000 in
set_option maxRecDepth 100000 in
theorem k_L_trySteps_n {E : En} (a1 : Int32) (M : Wd) {r : Int32} (h : F_L_trySteps_n a1 M = some r) : Con E mi_L_trySteps_n [.ref 0, .int a1] M (.inl (some (.int r))) M := by
  unfold F_L_trySteps_n at h
  refine Con.ofH (by decide) rfl (Nat.le_of_ble_eq_true rfl) (fun κ => ?_)
  show J κ E mi_L_trySteps_n _ 0 0 [(0, .ref 0), (1, .int a1)] M 0 []
  refine J_aload_n (pc := 0) dL_trySteps_0 rfl 0 rfl ?_
  refine J_iload_n (pc := 1) dL_trySteps_1 rfl 1 rfl ?_
  obtain ⟨v1, hc2, h⟩ := obind_e h
  refine J_callV (g := mi_X3_stepsOf_n) (ci := 3) (pc := 2) [.int a1] [] mv_X3_stepsOf_n w_818 (k_X3_stepsOf_n  a1 _ hc2) rfl (by decide) rfl rfl rfl ⟨⟨Nat.le_of_ble_eq_true rfl, Nat.le_of_ble_eq_true rfl⟩, Nat.le_of_ble_eq_true rfl, Nat.le_of_ble_eq_true rfl⟩ (Nat.le_of_ble_eq_true rfl) dL_trySteps_2 (Jk_v rfl rfl fun hok3 => ?_)
  cases h
  exact J_ireturn dL_trySteps_5 rfl rfl rfl rfl rfl
set_option maxHeartbeats 4000000 in
set_option maxRecDepth 100000 in
theorem k_L_tryNext {E : En} (M : Wd) {r : Int32} {M' : Wd} (h : F_L_tryNext M = some (r, M')) : Con E mi_L_tryNext [.ref 0] M (.inl (some (.int r))) M' := by
  unfold F_L_tryNext at h
  refine Con.ofH (by decide) rfl (Nat.le_of_ble_eq_true rfl) (fun κ => ?_)
  show J κ E mi_L_tryNext _ 0 0 [(0, .ref 0)] M 0 []
  refine J_aload_n (pc := 0) dL_tryNext_0 rfl 0 rfl ?_
  rcases obindX_e h with ⟨v1, M2, hc3, h⟩ | ⟨x5, M2, hc3, h⟩
  · refine J_callV (g := mi_X3_nextCar) (ci := 3) (pc := 1) [] [] mv_X3_nextCar w_825 (k_X3_nextCar _ hc3) rfl (by decide) rfl rfl rfl ⟨⟨Nat.le_of_ble_eq_true rfl, Nat.le_of_ble_eq_true rfl⟩, Nat.le_of_ble_eq_true rfl, Nat.le_of_ble_eq_true rfl⟩ (Nat.le_of_ble_eq_true rfl) dL_tryNext_1 (Jk_vk 1 6 rfl rfl fun hok4 => ?_)
    cases h
    refine J_wide (k' := 1) (n' := 6) (Nat.le_of_ble_eq_true rfl) (Nat.le_of_ble_eq_true rfl) ?_
    exact J_ireturn dL_tryNext_4 rfl rfl rfl rfl rfl
  · by_cases c6 : x5 = 3
    · subst c6
      replace h := ifp rfl h
      refine J_callV (g := mi_X3_nextCar) (ci := 3) (pc := 1) [] [] mv_X3_nextCar w_825 (show Con E _ _ _ (.inr "java/lang/IllegalStateException") _ from (k_X3_nextCar _ hc3)) rfl (by decide) rfl rfl rfl ⟨⟨Nat.le_of_ble_eq_true rfl, Nat.le_of_ble_eq_true rfl⟩, Nat.le_of_ble_eq_true rfl, Nat.le_of_ble_eq_true rfl⟩ (Nat.le_of_ble_eq_true rfl) dL_tryNext_1 (Jk_catch [] [] (0, 4, 5, 16) rfl (fun z hz => by cases hz) rfl (by decide) w_439 w_537 fun q9 => ?_)
      refine J_astore_n (pc := 5) dL_tryNext_5 rfl (Nat.le_of_ble_eq_true rfl) [1, 0] rfl ?_
      refine J_ldc (pc := 6) w_575 dL_tryNext_6 ?_
      cases h
      refine J_wide (k' := 1) (n' := 6) (Nat.le_of_ble_eq_true rfl) (Nat.le_of_ble_eq_true rfl) ?_
      exact J_ireturn dL_tryNext_8 rfl rfl rfl rfl rfl
    · replace h := ifn c6 h
      cases h
set_option maxHeartbeats 4000000 in
set_option maxRecDepth 100000 in
theorem k_L_tryChange {E : En} (M : Wd) {r : Int32} {M' : Wd} (h : F_L_tryChange M = some (r, M')) : Con E mi_L_tryChange [.ref 0] M (.inl (some (.int r))) M' := by
  unfold F_L_tryChange at h
  refine Con.ofH (by decide) rfl (Nat.le_of_ble_eq_true rfl) (fun κ => ?_)
  show J κ E mi_L_tryChange _ 0 0 [(0, .ref 0)] M 0 []
  refine J_aload_n (pc := 0) dL_tryChange_0 rfl 0 rfl ?_
  rcases obindX_e h with ⟨v1, M2, hc3, h⟩ | ⟨x5, M2, hc3, h⟩
  · refine J_callV (g := mi_X3_nextChange) (ci := 3) (pc := 1) [] [] mv_X3_nextChange w_837 (k_X3_nextChange _ hc3) rfl (by decide) rfl rfl rfl ⟨⟨Nat.le_of_ble_eq_true rfl, Nat.le_of_ble_eq_true rfl⟩, Nat.le_of_ble_eq_true rfl, Nat.le_of_ble_eq_true rfl⟩ (Nat.le_of_ble_eq_true rfl) dL_tryChange_1 (Jk_vk 1 6 rfl rfl fun hok4 => ?_)
    cases h
    refine J_wide (k' := 1) (n' := 6) (Nat.le_of_ble_eq_true rfl) (Nat.le_of_ble_eq_true rfl) ?_
    exact J_ireturn dL_tryChange_4 rfl rfl rfl rfl rfl
  · by_cases c6 : x5 = 3
    · subst c6
      replace h := ifp rfl h
      refine J_callV (g := mi_X3_nextChange) (ci := 3) (pc := 1) [] [] mv_X3_nextChange w_837 (show Con E _ _ _ (.inr "java/lang/IllegalStateException") _ from (k_X3_nextChange _ hc3)) rfl (by decide) rfl rfl rfl ⟨⟨Nat.le_of_ble_eq_true rfl, Nat.le_of_ble_eq_true rfl⟩, Nat.le_of_ble_eq_true rfl, Nat.le_of_ble_eq_true rfl⟩ (Nat.le_of_ble_eq_true rfl) dL_tryChange_1 (Jk_catch [] [] (0, 4, 5, 16) rfl (fun z hz => by cases hz) rfl (by decide) w_439 w_537 fun q9 => ?_)
      refine J_astore_n (pc := 5) dL_tryChange_5 rfl (Nat.le_of_ble_eq_true rfl) [1, 0] rfl ?_
      refine J_ldc (pc := 6) w_575 dL_tryChange_6 ?_
      cases h
      refine J_wide (k' := 1) (n' := 6) (Nat.le_of_ble_eq_true rfl) (Nat.le_of_ble_eq_true rfl) ?_
      exact J_ireturn dL_tryChange_8 rfl rfl rfl rfl rfl
    · replace h := ifn c6 h
      cases h

/-! ===== walks of the law's helpers, 1 ===== -/
set_option maxHeartbeats 4000000 in
set_option maxRecDepth 100000 in
theorem k_L_addCar_0_62 {E : En} (a1 : Int32) (a2 : Int32) (a3 : Int32) (M : Wd) {r : Int32} {M' : Wd} (h : F_L_addCar_0_62 a1 a2 a3 M = some (r, M')) : Con E mi_L_addCar [.ref 0, .int a1, .int a2, .int a3, .ref 62] M (.inl (some (.int r))) M' := by
  unfold F_L_addCar_0_62 at h
  refine Con.ofH (by decide) rfl (Nat.le_of_ble_eq_true rfl) (fun κ => ?_)
  show J κ E mi_L_addCar _ 0 0 [(0, .ref 0), (1, .int a1), (2, .int a2), (3, .int a3), (4, .ref 62)] M 0 []
  refine J_aload (pc := 0) dL_addCar_0 4 rfl ?_
  refine J_iconst (v := (0 : Int32)) (pc := 2) dL_addCar_2 (by decide) ?_
  refine J_aload_n (pc := 3) dL_addCar_3 rfl 0 rfl ?_
  refine J_iload_n (pc := 4) dL_addCar_4 rfl 1 rfl ?_
  refine J_iload_n (pc := 5) dL_addCar_5 rfl 2 rfl ?_
  refine J_iload_n (pc := 6) dL_addCar_6 rfl 3 rfl ?_
  rcases obindX_e h with ⟨v1, M2, hc3, h⟩ | ⟨x5, M2, hc3, h⟩
  · refine J_callV (g := mi_X3_addCar) (ci := 3) (pc := 7) [.int a1, .int a2, .int a3] [.int (0 : Int32), .ref 62] mv_X3_addCar w_621 (k_X3_addCar a1 a2 a3 _ hc3) rfl (by decide) rfl rfl rfl ⟨⟨Nat.le_of_ble_eq_true rfl, Nat.le_of_ble_eq_true rfl⟩, Nat.le_of_ble_eq_true rfl, Nat.le_of_ble_eq_true rfl⟩ (Nat.le_of_ble_eq_true rfl) dL_addCar_7 (Jk_vk 1 6 rfl rfl fun hok4 => ?_)
    refine J_i2l (pc := 10) dL_addCar_10 ?_
    refine J_last (pc := 11) (vpc rfl) dL_addCar_11 ?_
    refine J_M (upL M2 62 0 v1.toInt64) rfl ?_
    refine J_goto (pc := 12) (tgt := 27) dL_addCar_12 (by decide) ?_
    refine J_iconst (v := (0 : Int32)) (pc := 27) dL_addCar_27 (by decide) ?_
    cases h
    refine J_wide (k' := 1) (n' := 6) (Nat.le_of_ble_eq_true rfl) (Nat.le_of_ble_eq_true rfl) ?_
    exact J_ireturn dL_addCar_28 rfl rfl rfl rfl rfl
  · by_cases c6 : x5 = 1
    · subst c6
      replace h := ifp rfl h
      refine J_callV (g := mi_X3_addCar) (ci := 3) (pc := 7) [.int a1, .int a2, .int a3] [.int (0 : Int32), .ref 62] mv_X3_addCar w_621 (show Con E _ _ _ (.inr "java/lang/IndexOutOfBoundsException") _ from (k_X3_addCar a1 a2 a3 _ hc3)) rfl (by decide) rfl rfl rfl ⟨⟨Nat.le_of_ble_eq_true rfl, Nat.le_of_ble_eq_true rfl⟩, Nat.le_of_ble_eq_true rfl, Nat.le_of_ble_eq_true rfl⟩ (Nat.le_of_ble_eq_true rfl) dL_addCar_7 (Jk_catch [] [(0, 12, 19, 15), (0, 12, 23, 17)] (0, 12, 15, 13) rfl (fun z hz => by cases hz) rfl (by decide) w_618 w_634 fun q9 => ?_)
      refine J_astore (pc := 15) dL_addCar_15 (Nat.le_of_ble_eq_true rfl) [1, 2, 3, 4, 5, 0] rfl ?_
      refine J_iconst (v := (1 : Int32)) (pc := 17) dL_addCar_17 (by decide) ?_
      cases h
      refine J_wide (k' := 1) (n' := 6) (Nat.le_of_ble_eq_true rfl) (Nat.le_of_ble_eq_true rfl) ?_
      exact J_ireturn dL_addCar_18 rfl rfl rfl rfl rfl
    · replace h := ifn c6 h
      by_cases c7 : x5 = 2
      · subst c7
        replace h := ifp rfl h
        refine J_callV (g := mi_X3_addCar) (ci := 3) (pc := 7) [.int a1, .int a2, .int a3] [.int (0 : Int32), .ref 62] mv_X3_addCar w_621 (show Con E _ _ _ (.inr "java/lang/IllegalArgumentException") _ from (k_X3_addCar a1 a2 a3 _ hc3)) rfl (by decide) rfl rfl rfl ⟨⟨Nat.le_of_ble_eq_true rfl, Nat.le_of_ble_eq_true rfl⟩, Nat.le_of_ble_eq_true rfl, Nat.le_of_ble_eq_true rfl⟩ (Nat.le_of_ble_eq_true rfl) dL_addCar_7 (Jk_catch [(0, 12, 15, 13)] [(0, 12, 23, 17)] (0, 12, 19, 15) rfl (List.forall_mem_cons.mpr ⟨⟨by decide, _, w_618, by decide⟩, (fun z hz => by cases hz)⟩) rfl (by decide) w_619 w_702 fun q9 => ?_)
        refine J_astore (pc := 19) dL_addCar_19 (Nat.le_of_ble_eq_true rfl) [1, 2, 3, 4, 5, 0] rfl ?_
        refine J_iconst (v := (2 : Int32)) (pc := 21) dL_addCar_21 (by decide) ?_
        cases h
        refine J_wide (k' := 1) (n' := 6) (Nat.le_of_ble_eq_true rfl) (Nat.le_of_ble_eq_true rfl) ?_
        exact J_ireturn dL_addCar_22 rfl rfl rfl rfl rfl
      · replace h := ifn c7 h
        by_cases c8 : x5 = 3
        · subst c8
          replace h := ifp rfl h
          refine J_callV (g := mi_X3_addCar) (ci := 3) (pc := 7) [.int a1, .int a2, .int a3] [.int (0 : Int32), .ref 62] mv_X3_addCar w_621 (show Con E _ _ _ (.inr "java/lang/IllegalStateException") _ from (k_X3_addCar a1 a2 a3 _ hc3)) rfl (by decide) rfl rfl rfl ⟨⟨Nat.le_of_ble_eq_true rfl, Nat.le_of_ble_eq_true rfl⟩, Nat.le_of_ble_eq_true rfl, Nat.le_of_ble_eq_true rfl⟩ (Nat.le_of_ble_eq_true rfl) dL_addCar_7 (Jk_catch [(0, 12, 15, 13), (0, 12, 19, 15)] [] (0, 12, 23, 17) rfl (List.forall_mem_cons.mpr ⟨⟨by decide, _, w_618, by decide⟩, (List.forall_mem_cons.mpr ⟨⟨by decide, _, w_619, by decide⟩, (fun z hz => by cases hz)⟩)⟩) rfl (by decide) w_620 w_718 fun q9 => ?_)
          refine J_astore (pc := 23) dL_addCar_23 (Nat.le_of_ble_eq_true rfl) [1, 2, 3, 4, 5, 0] rfl ?_
          refine J_iconst (v := (3 : Int32)) (pc := 25) dL_addCar_25 (by decide) ?_
          cases h
          refine J_wide (k' := 1) (n' := 6) (Nat.le_of_ble_eq_true rfl) (Nat.le_of_ble_eq_true rfl) ?_
          exact J_ireturn dL_addCar_26 rfl rfl rfl rfl rfl
        · replace h := ifn c8 h
          cases h
set_option maxHeartbeats 4000000 in
set_option maxRecDepth 100000 in
theorem k_L_dropLast_0_62 {E : En} (M : Wd) {r : Int32} {M' : Wd} (h : F_L_dropLast_0_62 M = some (r, M')) : Con E mi_L_dropLast [.ref 0, .ref 62] M (.inl (some (.int r))) M' := by
  unfold F_L_dropLast_0_62 at h
  refine Con.ofH (by decide) rfl (Nat.le_of_ble_eq_true rfl) (fun κ => ?_)
  show J κ E mi_L_dropLast _ 0 0 [(0, .ref 0), (1, .ref 62)] M 0 []
  refine J_aload_n (pc := 0) dL_dropLast_0 rfl 1 rfl ?_
  refine J_iconst (v := (0 : Int32)) (pc := 1) dL_dropLast_1 (by decide) ?_
  refine J_aload_n (pc := 2) dL_dropLast_2 rfl 0 rfl ?_
  rcases obindX_e h with ⟨v1, M2, hc3, h⟩ | ⟨x5, M2, hc3, h⟩
  · refine J_callV (g := mi_X3_dropLast) (ci := 3) (pc := 3) [] [.int (0 : Int32), .ref 62] mv_X3_dropLast w_739 (k_X3_dropLast _ hc3) rfl (by decide) rfl rfl rfl ⟨⟨Nat.le_of_ble_eq_true rfl, Nat.le_of_ble_eq_true rfl⟩, Nat.le_of_ble_eq_true rfl, Nat.le_of_ble_eq_true rfl⟩ (Nat.le_of_ble_eq_true rfl) dL_dropLast_3 (Jk_vk 1 6 rfl rfl fun hok4 => ?_)
    refine J_i2l (pc := 6) dL_dropLast_6 ?_
    refine J_last (pc := 7) (vpc rfl) dL_dropLast_7 ?_
    refine J_M (upL M2 62 0 v1.toInt64) rfl ?_
    refine J_goto (pc := 8) (tgt := 14) dL_dropLast_8 (by decide) ?_
    refine J_iconst (v := (0 : Int32)) (pc := 14) dL_dropLast_14 (by decide) ?_
    cases h
    refine J_wide (k' := 1) (n' := 6) (Nat.le_of_ble_eq_true rfl) (Nat.le_of_ble_eq_true rfl) ?_
    exact J_ireturn dL_dropLast_15 rfl rfl rfl rfl rfl
  · by_cases c6 : x5 = 3
    · subst c6
      replace h := ifp rfl h
      refine J_callV (g := mi_X3_dropLast) (ci := 3) (pc := 3) [] [.int (0 : Int32), .ref 62] mv_X3_dropLast w_739 (show Con E _ _ _ (.inr "java/lang/IllegalStateException") _ from (k_X3_dropLast _ hc3)) rfl (by decide) rfl rfl rfl ⟨⟨Nat.le_of_ble_eq_true rfl, Nat.le_of_ble_eq_true rfl⟩, Nat.le_of_ble_eq_true rfl, Nat.le_of_ble_eq_true rfl⟩ (Nat.le_of_ble_eq_true rfl) dL_dropLast_3 (Jk_catch [] [] (0, 8, 11, 17) rfl (fun z hz => by cases hz) rfl (by decide) w_620 w_718 fun q9 => ?_)
      refine J_astore_n (pc := 11) dL_dropLast_11 rfl (Nat.le_of_ble_eq_true rfl) [1, 2, 0] rfl ?_
      refine J_iconst (v := (1 : Int32)) (pc := 12) dL_dropLast_12 (by decide) ?_
      cases h
      refine J_wide (k' := 1) (n' := 6) (Nat.le_of_ble_eq_true rfl) (Nat.le_of_ble_eq_true rfl) ?_
      exact J_ireturn dL_dropLast_13 rfl rfl rfl rfl rfl
    · replace h := ifn c6 h
      cases h
set_option maxHeartbeats 4000000 in
set_option maxRecDepth 100000 in
theorem k_L_toggleWall_0_62 {E : En} (a1 : Int32) (M : Wd) {r : Int32} {M' : Wd} (h : F_L_toggleWall_0_62 a1 M = some (r, M')) : Con E mi_L_toggleWall [.ref 0, .int a1, .ref 62] M (.inl (some (.int r))) M' := by
  unfold F_L_toggleWall_0_62 at h
  refine Con.ofH (by decide) rfl (Nat.le_of_ble_eq_true rfl) (fun κ => ?_)
  show J κ E mi_L_toggleWall _ 0 0 [(0, .ref 0), (1, .int a1), (2, .ref 62)] M 0 []
  refine J_aload_n (pc := 0) dL_toggleWall_0 rfl 2 rfl ?_
  refine J_iconst (v := (0 : Int32)) (pc := 1) dL_toggleWall_1 (by decide) ?_
  refine J_aload_n (pc := 2) dL_toggleWall_2 rfl 0 rfl ?_
  refine J_iload_n (pc := 3) dL_toggleWall_3 rfl 1 rfl ?_
  rcases obindX_e h with ⟨v1, M2, hc3, h⟩ | ⟨x5, M2, hc3, h⟩
  · refine J_callV (g := mi_X3_toggleWall) (ci := 3) (pc := 4) [.int a1] [.int (0 : Int32), .ref 62] mv_X3_toggleWall w_751 (k_X3_toggleWall a1 _ hc3) rfl (by decide) rfl rfl rfl ⟨⟨Nat.le_of_ble_eq_true rfl, Nat.le_of_ble_eq_true rfl⟩, Nat.le_of_ble_eq_true rfl, Nat.le_of_ble_eq_true rfl⟩ (Nat.le_of_ble_eq_true rfl) dL_toggleWall_4 (Jk_vk 1 6 rfl rfl fun hok4 => ?_)
    obtain ⟨v6, e7, h⟩ := bnd_e h
    refine J_join [] M2 15 [.long v6, .int (0 : Int32), .ref 62] ?_ (fun hJ => ?_)
    · refine J_last (pc := 15) (vpc rfl) dL_toggleWall_15 ?_
      refine J_M (upL M2 62 0 v6) rfl ?_
      refine J_goto (pc := 16) (tgt := 25) dL_toggleWall_16 (by decide) ?_
      refine J_iconst (v := (0 : Int32)) (pc := 25) dL_toggleWall_25 (by decide) ?_
      cases h
      refine J_wide (k' := 1) (n' := 6) (Nat.le_of_ble_eq_true rfl) (Nat.le_of_ble_eq_true rfl) ?_
      exact J_ireturn dL_toggleWall_26 rfl rfl rfl rfl rfl
    · refine J_if_eq (pc := 7) (tgt := 14) dL_toggleWall_7 (by decide) (fun c8 => ?_) (fun c8 => ?_)
      · refine J_lconst (v := (0 : Int64)) (pc := 14) dL_toggleWall_14 (by decide) ?_
        refine J_sub [] rfl ?_
        refine J_topl (y := v6) (by rw [e7, if_pos c8]) ?_
        exact hJ
      · refine J_lconst (v := (1 : Int64)) (pc := 10) dL_toggleWall_10 (by decide) ?_
        refine J_goto (pc := 11) (tgt := 15) dL_toggleWall_11 (by decide) ?_
        refine J_sub [] rfl ?_
        refine J_topl (y := v6) (by rw [e7, if_neg c8]) ?_
        exact hJ
  · by_cases c9 : x5 = 1
    · subst c9
      replace h := ifp rfl h
      refine J_callV (g := mi_X3_toggleWall) (ci := 3) (pc := 4) [.int a1] [.int (0 : Int32), .ref 62] mv_X3_toggleWall w_751 (show Con E _ _ _ (.inr "java/lang/IndexOutOfBoundsException") _ from (k_X3_toggleWall a1 _ hc3)) rfl (by decide) rfl rfl rfl ⟨⟨Nat.le_of_ble_eq_true rfl, Nat.le_of_ble_eq_true rfl⟩, Nat.le_of_ble_eq_true rfl, Nat.le_of_ble_eq_true rfl⟩ (Nat.le_of_ble_eq_true rfl) dL_toggleWall_4 (Jk_catch [] [(0, 16, 22, 17)] (0, 16, 19, 13) rfl (fun z hz => by cases hz) rfl (by decide) w_618 w_634 fun q9 => ?_)
      refine J_astore_n (pc := 19) dL_toggleWall_19 rfl (Nat.le_of_ble_eq_true rfl) [1, 2, 3, 0] rfl ?_
      refine J_iconst (v := (1 : Int32)) (pc := 20) dL_toggleWall_20 (by decide) ?_
      cases h
      refine J_wide (k' := 1) (n' := 6) (Nat.le_of_ble_eq_true rfl) (Nat.le_of_ble_eq_true rfl) ?_
      exact J_ireturn dL_toggleWall_21 rfl rfl rfl rfl rfl
    · replace h := ifn c9 h
      by_cases c10 : x5 = 3
      · subst c10
        replace h := ifp rfl h
        refine J_callV (g := mi_X3_toggleWall) (ci := 3) (pc := 4) [.int a1] [.int (0 : Int32), .ref 62] mv_X3_toggleWall w_751 (show Con E _ _ _ (.inr "java/lang/IllegalStateException") _ from (k_X3_toggleWall a1 _ hc3)) rfl (by decide) rfl rfl rfl ⟨⟨Nat.le_of_ble_eq_true rfl, Nat.le_of_ble_eq_true rfl⟩, Nat.le_of_ble_eq_true rfl, Nat.le_of_ble_eq_true rfl⟩ (Nat.le_of_ble_eq_true rfl) dL_toggleWall_4 (Jk_catch [(0, 16, 19, 13)] [] (0, 16, 22, 17) rfl (List.forall_mem_cons.mpr ⟨⟨by decide, _, w_618, by decide⟩, (fun z hz => by cases hz)⟩) rfl (by decide) w_620 w_718 fun q9 => ?_)
        refine J_astore_n (pc := 22) dL_toggleWall_22 rfl (Nat.le_of_ble_eq_true rfl) [1, 2, 3, 0] rfl ?_
        refine J_iconst (v := (2 : Int32)) (pc := 23) dL_toggleWall_23 (by decide) ?_
        cases h
        refine J_wide (k' := 1) (n' := 6) (Nat.le_of_ble_eq_true rfl) (Nat.le_of_ble_eq_true rfl) ?_
        exact J_ireturn dL_toggleWall_24 rfl rfl rfl rfl rfl
      · replace h := ifn c10 h
        cases h
set_option maxHeartbeats 4000000 in
set_option maxRecDepth 100000 in
theorem k_L_slide_0_62 {E : En} (a1 : Int32) (a2 : Int32) (M : Wd) {r : Int32} {M' : Wd} (h : F_L_slide_0_62 a1 a2 M = some (r, M')) : Con E mi_L_slide [.ref 0, .int a1, .int a2, .ref 62] M (.inl (some (.int r))) M' := by
  unfold F_L_slide_0_62 at h
  refine Con.ofH (by decide) rfl (Nat.le_of_ble_eq_true rfl) (fun κ => ?_)
  show J κ E mi_L_slide _ 0 0 [(0, .ref 0), (1, .int a1), (2, .int a2), (3, .ref 62)] M 0 []
  refine J_aload_n (pc := 0) dL_slide_0 rfl 3 rfl ?_
  refine J_iconst (v := (0 : Int32)) (pc := 1) dL_slide_1 (by decide) ?_
  refine J_aload_n (pc := 2) dL_slide_2 rfl 0 rfl ?_
  refine J_iload_n (pc := 3) dL_slide_3 rfl 1 rfl ?_
  refine J_iload_n (pc := 4) dL_slide_4 rfl 2 rfl ?_
  rcases obindX_e h with ⟨v1, M2, hc3, h⟩ | ⟨x5, M2, hc3, h⟩
  · refine J_callV (g := mi_X3_slide) (ci := 3) (pc := 5) [.int a1, .int a2] [.int (0 : Int32), .ref 62] mv_X3_slide w_772 (k_X3_slide a1 a2 _ hc3) rfl (by decide) rfl rfl rfl ⟨⟨Nat.le_of_ble_eq_true rfl, Nat.le_of_ble_eq_true rfl⟩, Nat.le_of_ble_eq_true rfl, Nat.le_of_ble_eq_true rfl⟩ (Nat.le_of_ble_eq_true rfl) dL_slide_5 (Jk_vk 2 12 rfl rfl fun hok4 => ?_)
    refine J_i2l (pc := 8) dL_slide_8 ?_
    refine J_last (pc := 9) (vpc rfl) dL_slide_9 ?_
    refine J_M (upL M2 62 0 v1.toInt64) rfl ?_
    refine J_goto (pc := 10) (tgt := 25) dL_slide_10 (by decide) ?_
    refine J_iconst (v := (0 : Int32)) (pc := 25) dL_slide_25 (by decide) ?_
    cases h
    refine J_wide (k' := 2) (n' := 12) (Nat.le_of_ble_eq_true rfl) (Nat.le_of_ble_eq_true rfl) ?_
    exact J_ireturn dL_slide_26 rfl rfl rfl rfl rfl
  · by_cases c6 : x5 = 1
    · subst c6
      replace h := ifp rfl h
      refine J_callV (g := mi_X3_slide) (ci := 3) (pc := 5) [.int a1, .int a2] [.int (0 : Int32), .ref 62] mv_X3_slide w_772 (show Con E _ _ _ (.inr "java/lang/IndexOutOfBoundsException") _ from (k_X3_slide a1 a2 _ hc3)) rfl (by decide) rfl rfl rfl ⟨⟨Nat.le_of_ble_eq_true rfl, Nat.le_of_ble_eq_true rfl⟩, Nat.le_of_ble_eq_true rfl, Nat.le_of_ble_eq_true rfl⟩ (Nat.le_of_ble_eq_true rfl) dL_slide_5 (Jk_catch [] [(0, 10, 17, 15), (0, 10, 21, 17)] (0, 10, 13, 13) rfl (fun z hz => by cases hz) rfl (by decide) w_618 w_634 fun q9 => ?_)
      refine J_astore (pc := 13) dL_slide_13 (Nat.le_of_ble_eq_true rfl) [1, 2, 3, 4, 0] rfl ?_
      refine J_iconst (v := (1 : Int32)) (pc := 15) dL_slide_15 (by decide) ?_
      cases h
      refine J_wide (k' := 2) (n' := 12) (Nat.le_of_ble_eq_true rfl) (Nat.le_of_ble_eq_true rfl) ?_
      exact J_ireturn dL_slide_16 rfl rfl rfl rfl rfl
    · replace h := ifn c6 h
      by_cases c7 : x5 = 2
      · subst c7
        replace h := ifp rfl h
        refine J_callV (g := mi_X3_slide) (ci := 3) (pc := 5) [.int a1, .int a2] [.int (0 : Int32), .ref 62] mv_X3_slide w_772 (show Con E _ _ _ (.inr "java/lang/IllegalArgumentException") _ from (k_X3_slide a1 a2 _ hc3)) rfl (by decide) rfl rfl rfl ⟨⟨Nat.le_of_ble_eq_true rfl, Nat.le_of_ble_eq_true rfl⟩, Nat.le_of_ble_eq_true rfl, Nat.le_of_ble_eq_true rfl⟩ (Nat.le_of_ble_eq_true rfl) dL_slide_5 (Jk_catch [(0, 10, 13, 13)] [(0, 10, 21, 17)] (0, 10, 17, 15) rfl (List.forall_mem_cons.mpr ⟨⟨by decide, _, w_618, by decide⟩, (fun z hz => by cases hz)⟩) rfl (by decide) w_619 w_702 fun q9 => ?_)
        refine J_astore (pc := 17) dL_slide_17 (Nat.le_of_ble_eq_true rfl) [1, 2, 3, 4, 0] rfl ?_
        refine J_iconst (v := (2 : Int32)) (pc := 19) dL_slide_19 (by decide) ?_
        cases h
        refine J_wide (k' := 2) (n' := 12) (Nat.le_of_ble_eq_true rfl) (Nat.le_of_ble_eq_true rfl) ?_
        exact J_ireturn dL_slide_20 rfl rfl rfl rfl rfl
      · replace h := ifn c7 h
        by_cases c8 : x5 = 3
        · subst c8
          replace h := ifp rfl h
          refine J_callV (g := mi_X3_slide) (ci := 3) (pc := 5) [.int a1, .int a2] [.int (0 : Int32), .ref 62] mv_X3_slide w_772 (show Con E _ _ _ (.inr "java/lang/IllegalStateException") _ from (k_X3_slide a1 a2 _ hc3)) rfl (by decide) rfl rfl rfl ⟨⟨Nat.le_of_ble_eq_true rfl, Nat.le_of_ble_eq_true rfl⟩, Nat.le_of_ble_eq_true rfl, Nat.le_of_ble_eq_true rfl⟩ (Nat.le_of_ble_eq_true rfl) dL_slide_5 (Jk_catch [(0, 10, 13, 13), (0, 10, 17, 15)] [] (0, 10, 21, 17) rfl (List.forall_mem_cons.mpr ⟨⟨by decide, _, w_618, by decide⟩, (List.forall_mem_cons.mpr ⟨⟨by decide, _, w_619, by decide⟩, (fun z hz => by cases hz)⟩)⟩) rfl (by decide) w_620 w_718 fun q9 => ?_)
          refine J_astore (pc := 21) dL_slide_21 (Nat.le_of_ble_eq_true rfl) [1, 2, 3, 4, 0] rfl ?_
          refine J_iconst (v := (3 : Int32)) (pc := 23) dL_slide_23 (by decide) ?_
          cases h
          refine J_wide (k' := 2) (n' := 12) (Nat.le_of_ble_eq_true rfl) (Nat.le_of_ble_eq_true rfl) ?_
          exact J_ireturn dL_slide_24 rfl rfl rfl rfl rfl
        · replace h := ifn c8 h
          cases h
set_option maxHeartbeats 4000000 in
set_option maxRecDepth 100000 in
theorem k_L_takeBack_0_62 {E : En} (M : Wd) {r : Int32} {M' : Wd} (h : F_L_takeBack_0_62 M = some (r, M')) : Con E mi_L_takeBack [.ref 0, .ref 62] M (.inl (some (.int r))) M' := by
  unfold F_L_takeBack_0_62 at h
  refine Con.ofH (by decide) rfl (Nat.le_of_ble_eq_true rfl) (fun κ => ?_)
  show J κ E mi_L_takeBack _ 0 0 [(0, .ref 0), (1, .ref 62)] M 0 []
  refine J_aload_n (pc := 0) dL_takeBack_0 rfl 1 rfl ?_
  refine J_iconst (v := (0 : Int32)) (pc := 1) dL_takeBack_1 (by decide) ?_
  refine J_aload_n (pc := 2) dL_takeBack_2 rfl 0 rfl ?_
  rcases obindX_e h with ⟨v1, M2, hc3, h⟩ | ⟨x5, M2, hc3, h⟩
  · refine J_callV (g := mi_X3_takeBack) (ci := 3) (pc := 3) [] [.int (0 : Int32), .ref 62] mv_X3_takeBack w_789 (k_X3_takeBack _ hc3) rfl (by decide) rfl rfl rfl ⟨⟨Nat.le_of_ble_eq_true rfl, Nat.le_of_ble_eq_true rfl⟩, Nat.le_of_ble_eq_true rfl, Nat.le_of_ble_eq_true rfl⟩ (Nat.le_of_ble_eq_true rfl) dL_takeBack_3 (Jk_vk 1 6 rfl rfl fun hok4 => ?_)
    refine J_i2l (pc := 6) dL_takeBack_6 ?_
    refine J_last (pc := 7) (vpc rfl) dL_takeBack_7 ?_
    refine J_M (upL M2 62 0 v1.toInt64) rfl ?_
    refine J_goto (pc := 8) (tgt := 14) dL_takeBack_8 (by decide) ?_
    refine J_iconst (v := (0 : Int32)) (pc := 14) dL_takeBack_14 (by decide) ?_
    cases h
    refine J_wide (k' := 1) (n' := 6) (Nat.le_of_ble_eq_true rfl) (Nat.le_of_ble_eq_true rfl) ?_
    exact J_ireturn dL_takeBack_15 rfl rfl rfl rfl rfl
  · by_cases c6 : x5 = 3
    · subst c6
      replace h := ifp rfl h
      refine J_callV (g := mi_X3_takeBack) (ci := 3) (pc := 3) [] [.int (0 : Int32), .ref 62] mv_X3_takeBack w_789 (show Con E _ _ _ (.inr "java/lang/IllegalStateException") _ from (k_X3_takeBack _ hc3)) rfl (by decide) rfl rfl rfl ⟨⟨Nat.le_of_ble_eq_true rfl, Nat.le_of_ble_eq_true rfl⟩, Nat.le_of_ble_eq_true rfl, Nat.le_of_ble_eq_true rfl⟩ (Nat.le_of_ble_eq_true rfl) dL_takeBack_3 (Jk_catch [] [] (0, 8, 11, 17) rfl (fun z hz => by cases hz) rfl (by decide) w_620 w_718 fun q9 => ?_)
      refine J_astore_n (pc := 11) dL_takeBack_11 rfl (Nat.le_of_ble_eq_true rfl) [1, 2, 0] rfl ?_
      refine J_iconst (v := (1 : Int32)) (pc := 12) dL_takeBack_12 (by decide) ?_
      cases h
      refine J_wide (k' := 1) (n' := 6) (Nat.le_of_ble_eq_true rfl) (Nat.le_of_ble_eq_true rfl) ?_
      exact J_ireturn dL_takeBack_13 rfl rfl rfl rfl rfl
    · replace h := ifn c6 h
      cases h
set_option maxHeartbeats 4000000 in
set_option maxRecDepth 100000 in
theorem k_L_driveOut_0_62 {E : En} (M : Wd) {r : Int32} {M' : Wd} (h : F_L_driveOut_0_62 M = some (r, M')) : Con E mi_L_driveOut [.ref 0, .ref 62] M (.inl (some (.int r))) M' := by
  unfold F_L_driveOut_0_62 at h
  refine Con.ofH (by decide) rfl (Nat.le_of_ble_eq_true rfl) (fun κ => ?_)
  show J κ E mi_L_driveOut _ 0 0 [(0, .ref 0), (1, .ref 62)] M 0 []
  refine J_aload_n (pc := 0) dL_driveOut_0 rfl 1 rfl ?_
  refine J_iconst (v := (0 : Int32)) (pc := 1) dL_driveOut_1 (by decide) ?_
  refine J_aload_n (pc := 2) dL_driveOut_2 rfl 0 rfl ?_
  rcases obindX_e h with ⟨v1, M2, hc3, h⟩ | ⟨x5, M2, hc3, h⟩
  · refine J_callV (g := mi_X3_driveOut) (ci := 3) (pc := 3) [] [.int (0 : Int32), .ref 62] mv_X3_driveOut w_797 (k_X3_driveOut _ hc3) rfl (by decide) rfl rfl rfl ⟨⟨Nat.le_of_ble_eq_true rfl, Nat.le_of_ble_eq_true rfl⟩, Nat.le_of_ble_eq_true rfl, Nat.le_of_ble_eq_true rfl⟩ (Nat.le_of_ble_eq_true rfl) dL_driveOut_3 (Jk_vk 1 6 rfl rfl fun hok4 => ?_)
    refine J_i2l (pc := 6) dL_driveOut_6 ?_
    refine J_last (pc := 7) (vpc rfl) dL_driveOut_7 ?_
    refine J_M (upL M2 62 0 v1.toInt64) rfl ?_
    refine J_goto (pc := 8) (tgt := 14) dL_driveOut_8 (by decide) ?_
    refine J_iconst (v := (0 : Int32)) (pc := 14) dL_driveOut_14 (by decide) ?_
    cases h
    refine J_wide (k' := 1) (n' := 6) (Nat.le_of_ble_eq_true rfl) (Nat.le_of_ble_eq_true rfl) ?_
    exact J_ireturn dL_driveOut_15 rfl rfl rfl rfl rfl
  · by_cases c6 : x5 = 3
    · subst c6
      replace h := ifp rfl h
      refine J_callV (g := mi_X3_driveOut) (ci := 3) (pc := 3) [] [.int (0 : Int32), .ref 62] mv_X3_driveOut w_797 (show Con E _ _ _ (.inr "java/lang/IllegalStateException") _ from (k_X3_driveOut _ hc3)) rfl (by decide) rfl rfl rfl ⟨⟨Nat.le_of_ble_eq_true rfl, Nat.le_of_ble_eq_true rfl⟩, Nat.le_of_ble_eq_true rfl, Nat.le_of_ble_eq_true rfl⟩ (Nat.le_of_ble_eq_true rfl) dL_driveOut_3 (Jk_catch [] [] (0, 8, 11, 17) rfl (fun z hz => by cases hz) rfl (by decide) w_620 w_718 fun q9 => ?_)
      refine J_astore_n (pc := 11) dL_driveOut_11 rfl (Nat.le_of_ble_eq_true rfl) [1, 2, 0] rfl ?_
      refine J_iconst (v := (1 : Int32)) (pc := 12) dL_driveOut_12 (by decide) ?_
      cases h
      refine J_wide (k' := 1) (n' := 6) (Nat.le_of_ble_eq_true rfl) (Nat.le_of_ble_eq_true rfl) ?_
      exact J_ireturn dL_driveOut_13 rfl rfl rfl rfl rfl
    · replace h := ifn c6 h
      cases h
set_option maxHeartbeats 4000000 in
set_option maxRecDepth 100000 in
theorem k_L_append_0_62 {E : En} (a1 : Int32) (M : Wd) {r : Int32} {M' : Wd} (h : F_L_append_0_62 a1 M = some (r, M')) : Con E mi_L_append [.ref 0, .int a1, .ref 62] M (.inl (some (.int r))) M' := by
  unfold F_L_append_0_62 at h
  refine Con.ofH (by decide) rfl (Nat.le_of_ble_eq_true rfl) (fun κ => ?_)
  show J κ E mi_L_append _ 0 0 [(0, .ref 0), (1, .int a1), (2, .ref 62)] M 0 []
  refine J_aload_n (pc := 0) dL_append_0 rfl 2 rfl ?_
  refine J_iconst (v := (0 : Int32)) (pc := 1) dL_append_1 (by decide) ?_
  refine J_aload_n (pc := 2) dL_append_2 rfl 0 rfl ?_
  refine J_iload_n (pc := 3) dL_append_3 rfl 1 rfl ?_
  rcases obindX_e h with ⟨v1, M2, hc3, h⟩ | ⟨x5, M2, hc3, h⟩
  · refine J_callV (g := mi_X3_append) (ci := 3) (pc := 4) [.int a1] [.int (0 : Int32), .ref 62] mv_X3_append w_823 (k_X3_append a1 _ hc3) rfl (by decide) rfl rfl rfl ⟨⟨Nat.le_of_ble_eq_true rfl, Nat.le_of_ble_eq_true rfl⟩, Nat.le_of_ble_eq_true rfl, Nat.le_of_ble_eq_true rfl⟩ (Nat.le_of_ble_eq_true rfl) dL_append_4 (Jk_vk 1 6 rfl rfl fun hok4 => ?_)
    refine J_i2l (pc := 7) dL_append_7 ?_
    refine J_last (pc := 8) (vpc rfl) dL_append_8 ?_
    refine J_M (upL M2 62 0 v1.toInt64) rfl ?_
    refine J_goto (pc := 9) (tgt := 18) dL_append_9 (by decide) ?_
    refine J_iconst (v := (0 : Int32)) (pc := 18) dL_append_18 (by decide) ?_
    cases h
    refine J_wide (k' := 1) (n' := 6) (Nat.le_of_ble_eq_true rfl) (Nat.le_of_ble_eq_true rfl) ?_
    exact J_ireturn dL_append_19 rfl rfl rfl rfl rfl
  · by_cases c6 : x5 = 2
    · subst c6
      replace h := ifp rfl h
      refine J_callV (g := mi_X3_append) (ci := 3) (pc := 4) [.int a1] [.int (0 : Int32), .ref 62] mv_X3_append w_823 (show Con E _ _ _ (.inr "java/lang/IllegalArgumentException") _ from (k_X3_append a1 _ hc3)) rfl (by decide) rfl rfl rfl ⟨⟨Nat.le_of_ble_eq_true rfl, Nat.le_of_ble_eq_true rfl⟩, Nat.le_of_ble_eq_true rfl, Nat.le_of_ble_eq_true rfl⟩ (Nat.le_of_ble_eq_true rfl) dL_append_4 (Jk_catch [] [(0, 9, 15, 17)] (0, 9, 12, 15) rfl (fun z hz => by cases hz) rfl (by decide) w_619 w_702 fun q9 => ?_)
      refine J_astore_n (pc := 12) dL_append_12 rfl (Nat.le_of_ble_eq_true rfl) [1, 2, 3, 0] rfl ?_
      refine J_iconst (v := (1 : Int32)) (pc := 13) dL_append_13 (by decide) ?_
      cases h
      refine J_wide (k' := 1) (n' := 6) (Nat.le_of_ble_eq_true rfl) (Nat.le_of_ble_eq_true rfl) ?_
      exact J_ireturn dL_append_14 rfl rfl rfl rfl rfl
    · replace h := ifn c6 h
      by_cases c7 : x5 = 3
      · subst c7
        replace h := ifp rfl h
        refine J_callV (g := mi_X3_append) (ci := 3) (pc := 4) [.int a1] [.int (0 : Int32), .ref 62] mv_X3_append w_823 (show Con E _ _ _ (.inr "java/lang/IllegalStateException") _ from (k_X3_append a1 _ hc3)) rfl (by decide) rfl rfl rfl ⟨⟨Nat.le_of_ble_eq_true rfl, Nat.le_of_ble_eq_true rfl⟩, Nat.le_of_ble_eq_true rfl, Nat.le_of_ble_eq_true rfl⟩ (Nat.le_of_ble_eq_true rfl) dL_append_4 (Jk_catch [(0, 9, 12, 15)] [] (0, 9, 15, 17) rfl (List.forall_mem_cons.mpr ⟨⟨by decide, _, w_619, by decide⟩, (fun z hz => by cases hz)⟩) rfl (by decide) w_620 w_718 fun q9 => ?_)
        refine J_astore_n (pc := 15) dL_append_15 rfl (Nat.le_of_ble_eq_true rfl) [1, 2, 3, 0] rfl ?_
        refine J_iconst (v := (2 : Int32)) (pc := 16) dL_append_16 (by decide) ?_
        cases h
        refine J_wide (k' := 1) (n' := 6) (Nat.le_of_ble_eq_true rfl) (Nat.le_of_ble_eq_true rfl) ?_
        exact J_ireturn dL_append_17 rfl rfl rfl rfl rfl
      · replace h := ifn c7 h
        cases h
set_option maxHeartbeats 4000000 in
set_option maxRecDepth 100000 in
theorem k_L_work_0_62 {E : En} (M : Wd) {r : Int32} {M' : Wd} (h : F_L_work_0_62 M = some (r, M')) : Con E mi_L_work [.ref 0, .ref 62] M (.inl (some (.int r))) M' := by
  unfold F_L_work_0_62 at h
  refine Con.ofH (by decide) rfl (Nat.le_of_ble_eq_true rfl) (fun κ => ?_)
  show J κ E mi_L_work _ 0 0 [(0, .ref 0), (1, .ref 62)] M 0 []
  refine J_aload_n (pc := 0) dL_work_0 rfl 1 rfl ?_
  refine J_iconst (v := (0 : Int32)) (pc := 1) dL_work_1 (by decide) ?_
  refine J_aload_n (pc := 2) dL_work_2 rfl 0 rfl ?_
  rcases obindX_e h with ⟨v1, M2, hc3, h⟩ | ⟨x5, M2, hc3, h⟩
  · refine J_callV (g := mi_X3_work) (ci := 3) (pc := 3) [] [.int (0 : Int32), .ref 62] mv_X3_work w_836 (k_X3_work _ hc3) rfl (by decide) rfl rfl rfl ⟨⟨Nat.le_of_ble_eq_true rfl, Nat.le_of_ble_eq_true rfl⟩, Nat.le_of_ble_eq_true rfl, Nat.le_of_ble_eq_true rfl⟩ (Nat.le_of_ble_eq_true rfl) dL_work_3 (Jk_vk 1 6 rfl rfl fun hok4 => ?_)
    refine J_i2l (pc := 6) dL_work_6 ?_
    refine J_last (pc := 7) (vpc rfl) dL_work_7 ?_
    refine J_M (upL M2 62 0 v1.toInt64) rfl ?_
    refine J_goto (pc := 8) (tgt := 14) dL_work_8 (by decide) ?_
    refine J_iconst (v := (0 : Int32)) (pc := 14) dL_work_14 (by decide) ?_
    cases h
    refine J_wide (k' := 1) (n' := 6) (Nat.le_of_ble_eq_true rfl) (Nat.le_of_ble_eq_true rfl) ?_
    exact J_ireturn dL_work_15 rfl rfl rfl rfl rfl
  · by_cases c6 : x5 = 2
    · subst c6
      replace h := ifp rfl h
      refine J_callV (g := mi_X3_work) (ci := 3) (pc := 3) [] [.int (0 : Int32), .ref 62] mv_X3_work w_836 (show Con E _ _ _ (.inr "java/lang/IllegalArgumentException") _ from (k_X3_work _ hc3)) rfl (by decide) rfl rfl rfl ⟨⟨Nat.le_of_ble_eq_true rfl, Nat.le_of_ble_eq_true rfl⟩, Nat.le_of_ble_eq_true rfl, Nat.le_of_ble_eq_true rfl⟩ (Nat.le_of_ble_eq_true rfl) dL_work_3 (Jk_catch [] [] (0, 8, 11, 15) rfl (fun z hz => by cases hz) rfl (by decide) w_619 w_702 fun q9 => ?_)
      refine J_astore_n (pc := 11) dL_work_11 rfl (Nat.le_of_ble_eq_true rfl) [1, 2, 0] rfl ?_
      refine J_iconst (v := (1 : Int32)) (pc := 12) dL_work_12 (by decide) ?_
      cases h
      refine J_wide (k' := 1) (n' := 6) (Nat.le_of_ble_eq_true rfl) (Nat.le_of_ble_eq_true rfl) ?_
      exact J_ireturn dL_work_13 rfl rfl rfl rfl rfl
    · replace h := ifn c6 h
      cases h
set_option maxHeartbeats 4000000 in
set_option maxRecDepth 100000 in
theorem k_L_stoppedPart_0_62 {E : En} (M : Wd) {r : Int32} {M' : Wd} (h : F_L_stoppedPart_0_62 M = some (r, M')) : Con E mi_L_stoppedPart [.ref 0, .ref 62] M (.inl (some (.int r))) M' := by
  unfold F_L_stoppedPart_0_62 at h
  refine Con.ofH (by decide) rfl (Nat.le_of_ble_eq_true rfl) (fun κ => ?_)
  show J κ E mi_L_stoppedPart _ 0 0 [(0, .ref 0), (1, .ref 62)] M 0 []
  refine J_aload_n (pc := 0) dL_stoppedPart_0 rfl 1 rfl ?_
  refine J_iconst (v := (0 : Int32)) (pc := 1) dL_stoppedPart_1 (by decide) ?_
  refine J_aload_n (pc := 2) dL_stoppedPart_2 rfl 0 rfl ?_
  rcases obindX_e h with ⟨v1, M2, hc3, h⟩ | ⟨x5, M2, hc3, h⟩
  · refine J_callV (g := mi_X3_stoppedPart) (ci := 3) (pc := 3) [] [.int (0 : Int32), .ref 62] mv_X3_stoppedPart w_885 (k_X3_stoppedPart _ hc3) rfl (by decide) rfl rfl rfl ⟨⟨Nat.le_of_ble_eq_true rfl, Nat.le_of_ble_eq_true rfl⟩, Nat.le_of_ble_eq_true rfl, Nat.le_of_ble_eq_true rfl⟩ (Nat.le_of_ble_eq_true rfl) dL_stoppedPart_3 (Jk_vk 1 6 rfl rfl fun hok4 => ?_)
    refine J_i2l (pc := 6) dL_stoppedPart_6 ?_
    refine J_last (pc := 7) (vpc rfl) dL_stoppedPart_7 ?_
    refine J_M (upL M2 62 0 v1.toInt64) rfl ?_
    refine J_goto (pc := 8) (tgt := 14) dL_stoppedPart_8 (by decide) ?_
    refine J_iconst (v := (0 : Int32)) (pc := 14) dL_stoppedPart_14 (by decide) ?_
    cases h
    refine J_wide (k' := 1) (n' := 6) (Nat.le_of_ble_eq_true rfl) (Nat.le_of_ble_eq_true rfl) ?_
    exact J_ireturn dL_stoppedPart_15 rfl rfl rfl rfl rfl
  · by_cases c6 : x5 = 3
    · subst c6
      replace h := ifp rfl h
      refine J_callV (g := mi_X3_stoppedPart) (ci := 3) (pc := 3) [] [.int (0 : Int32), .ref 62] mv_X3_stoppedPart w_885 (show Con E _ _ _ (.inr "java/lang/IllegalStateException") _ from (k_X3_stoppedPart _ hc3)) rfl (by decide) rfl rfl rfl ⟨⟨Nat.le_of_ble_eq_true rfl, Nat.le_of_ble_eq_true rfl⟩, Nat.le_of_ble_eq_true rfl, Nat.le_of_ble_eq_true rfl⟩ (Nat.le_of_ble_eq_true rfl) dL_stoppedPart_3 (Jk_catch [] [] (0, 8, 11, 17) rfl (fun z hz => by cases hz) rfl (by decide) w_620 w_718 fun q9 => ?_)
      refine J_astore_n (pc := 11) dL_stoppedPart_11 rfl (Nat.le_of_ble_eq_true rfl) [1, 2, 0] rfl ?_
      refine J_iconst (v := (1 : Int32)) (pc := 12) dL_stoppedPart_12 (by decide) ?_
      cases h
      refine J_wide (k' := 1) (n' := 6) (Nat.le_of_ble_eq_true rfl) (Nat.le_of_ble_eq_true rfl) ?_
      exact J_ireturn dL_stoppedPart_13 rfl rfl rfl rfl rfl
    · replace h := ifn c6 h
      cases h
set_option maxHeartbeats 4000000 in
set_option maxRecDepth 100000 in
theorem k_L_undo_0_62 {E : En} (M : Wd) {r : Int32} {M' : Wd} (h : F_L_undo_0_62 M = some (r, M')) : Con E mi_L_undo [.ref 0, .ref 62] M (.inl (some (.int r))) M' := by
  unfold F_L_undo_0_62 at h
  refine Con.ofH (by decide) rfl (Nat.le_of_ble_eq_true rfl) (fun κ => ?_)
  show J κ E mi_L_undo _ 0 0 [(0, .ref 0), (1, .ref 62)] M 0 []
  refine J_aload_n (pc := 0) dL_undo_0 rfl 1 rfl ?_
  refine J_iconst (v := (0 : Int32)) (pc := 1) dL_undo_1 (by decide) ?_
  refine J_aload_n (pc := 2) dL_undo_2 rfl 0 rfl ?_
  rcases obindX_e h with ⟨v1, M2, hc3, h⟩ | ⟨x5, M2, hc3, h⟩
  · refine J_callV (g := mi_X3_undo) (ci := 3) (pc := 3) [] [.int (0 : Int32), .ref 62] mv_X3_undo w_893 (k_X3_undo _ hc3) rfl (by decide) rfl rfl rfl ⟨⟨Nat.le_of_ble_eq_true rfl, Nat.le_of_ble_eq_true rfl⟩, Nat.le_of_ble_eq_true rfl, Nat.le_of_ble_eq_true rfl⟩ (Nat.le_of_ble_eq_true rfl) dL_undo_3 (Jk_vk 1 6 rfl rfl fun hok4 => ?_)
    refine J_i2l (pc := 6) dL_undo_6 ?_
    refine J_last (pc := 7) (vpc rfl) dL_undo_7 ?_
    refine J_M (upL M2 62 0 v1.toInt64) rfl ?_
    refine J_goto (pc := 8) (tgt := 14) dL_undo_8 (by decide) ?_
    refine J_iconst (v := (0 : Int32)) (pc := 14) dL_undo_14 (by decide) ?_
    cases h
    refine J_wide (k' := 1) (n' := 6) (Nat.le_of_ble_eq_true rfl) (Nat.le_of_ble_eq_true rfl) ?_
    exact J_ireturn dL_undo_15 rfl rfl rfl rfl rfl
  · by_cases c6 : x5 = 3
    · subst c6
      replace h := ifp rfl h
      refine J_callV (g := mi_X3_undo) (ci := 3) (pc := 3) [] [.int (0 : Int32), .ref 62] mv_X3_undo w_893 (show Con E _ _ _ (.inr "java/lang/IllegalStateException") _ from (k_X3_undo _ hc3)) rfl (by decide) rfl rfl rfl ⟨⟨Nat.le_of_ble_eq_true rfl, Nat.le_of_ble_eq_true rfl⟩, Nat.le_of_ble_eq_true rfl, Nat.le_of_ble_eq_true rfl⟩ (Nat.le_of_ble_eq_true rfl) dL_undo_3 (Jk_catch [] [] (0, 8, 11, 17) rfl (fun z hz => by cases hz) rfl (by decide) w_620 w_718 fun q9 => ?_)
      refine J_astore_n (pc := 11) dL_undo_11 rfl (Nat.le_of_ble_eq_true rfl) [1, 2, 0] rfl ?_
      refine J_iconst (v := (1 : Int32)) (pc := 12) dL_undo_12 (by decide) ?_
      cases h
      refine J_wide (k' := 1) (n' := 6) (Nat.le_of_ble_eq_true rfl) (Nat.le_of_ble_eq_true rfl) ?_
      exact J_ireturn dL_undo_13 rfl rfl rfl rfl rfl
    · replace h := ifn c6 h
      cases h
set_option maxHeartbeats 4000000 in
set_option maxRecDepth 100000 in
theorem k_L_restore_0_62 {E : En} (M : Wd) {r : Int32} {M' : Wd} (h : F_L_restore_0_62 M = some (r, M')) : Con E mi_L_restore [.ref 0, .ref 62] M (.inl (some (.int r))) M' := by
  unfold F_L_restore_0_62 at h
  refine Con.ofH (by decide) rfl (Nat.le_of_ble_eq_true rfl) (fun κ => ?_)
  show J κ E mi_L_restore _ 0 0 [(0, .ref 0), (1, .ref 62)] M 0 []
  refine J_aload_n (pc := 0) dL_restore_0 rfl 1 rfl ?_
  refine J_iconst (v := (0 : Int32)) (pc := 1) dL_restore_1 (by decide) ?_
  refine J_aload_n (pc := 2) dL_restore_2 rfl 0 rfl ?_
  rcases obindX_e h with ⟨v1, M2, hc3, h⟩ | ⟨x5, M2, hc3, h⟩
  · refine J_callV (g := mi_X3_restore) (ci := 3) (pc := 3) [] [.int (0 : Int32), .ref 62] mv_X3_restore w_901 (k_X3_restore _ hc3) rfl (by decide) rfl rfl rfl ⟨⟨Nat.le_of_ble_eq_true rfl, Nat.le_of_ble_eq_true rfl⟩, Nat.le_of_ble_eq_true rfl, Nat.le_of_ble_eq_true rfl⟩ (Nat.le_of_ble_eq_true rfl) dL_restore_3 (Jk_vk 1 6 rfl rfl fun hok4 => ?_)
    refine J_i2l (pc := 6) dL_restore_6 ?_
    refine J_last (pc := 7) (vpc rfl) dL_restore_7 ?_
    refine J_M (upL M2 62 0 v1.toInt64) rfl ?_
    refine J_goto (pc := 8) (tgt := 14) dL_restore_8 (by decide) ?_
    refine J_iconst (v := (0 : Int32)) (pc := 14) dL_restore_14 (by decide) ?_
    cases h
    refine J_wide (k' := 1) (n' := 6) (Nat.le_of_ble_eq_true rfl) (Nat.le_of_ble_eq_true rfl) ?_
    exact J_ireturn dL_restore_15 rfl rfl rfl rfl rfl
  · by_cases c6 : x5 = 3
    · subst c6
      replace h := ifp rfl h
      refine J_callV (g := mi_X3_restore) (ci := 3) (pc := 3) [] [.int (0 : Int32), .ref 62] mv_X3_restore w_901 (show Con E _ _ _ (.inr "java/lang/IllegalStateException") _ from (k_X3_restore _ hc3)) rfl (by decide) rfl rfl rfl ⟨⟨Nat.le_of_ble_eq_true rfl, Nat.le_of_ble_eq_true rfl⟩, Nat.le_of_ble_eq_true rfl, Nat.le_of_ble_eq_true rfl⟩ (Nat.le_of_ble_eq_true rfl) dL_restore_3 (Jk_catch [] [] (0, 8, 11, 17) rfl (fun z hz => by cases hz) rfl (by decide) w_620 w_718 fun q9 => ?_)
      refine J_astore_n (pc := 11) dL_restore_11 rfl (Nat.le_of_ble_eq_true rfl) [1, 2, 0] rfl ?_
      refine J_iconst (v := (1 : Int32)) (pc := 12) dL_restore_12 (by decide) ?_
      cases h
      refine J_wide (k' := 1) (n' := 6) (Nat.le_of_ble_eq_true rfl) (Nat.le_of_ble_eq_true rfl) ?_
      exact J_ireturn dL_restore_13 rfl rfl rfl rfl rfl
    · replace h := ifn c6 h
      cases h
set_option maxHeartbeats 4000000 in
set_option maxRecDepth 100000 in
theorem k_L_laneOf_0_62 {E : En} (a1 : Int32) (M : Wd) {r : Int32} {M' : Wd} (h : F_L_laneOf_0_62 a1 M = some (r, M')) : Con E mi_L_laneOf [.ref 0, .int a1, .ref 62] M (.inl (some (.int r))) M' := by
  unfold F_L_laneOf_0_62 at h
  refine Con.ofH (by decide) rfl (Nat.le_of_ble_eq_true rfl) (fun κ => ?_)
  show J κ E mi_L_laneOf _ 0 0 [(0, .ref 0), (1, .int a1), (2, .ref 62)] M 0 []
  refine J_aload_n (pc := 0) dL_laneOf_0 rfl 2 rfl ?_
  refine J_iconst (v := (0 : Int32)) (pc := 1) dL_laneOf_1 (by decide) ?_
  refine J_aload_n (pc := 2) dL_laneOf_2 rfl 0 rfl ?_
  refine J_iload_n (pc := 3) dL_laneOf_3 rfl 1 rfl ?_
  rcases obindX_e h with ⟨v1, M2, hc3, h⟩ | ⟨x5, M2, hc3, h⟩
  · refine J_callV (g := mi_X3_laneOf) (ci := 3) (pc := 4) [.int a1] [.int (0 : Int32), .ref 62] mv_X3_laneOf w_909 (k_X3_laneOf a1 _ hc3) rfl (by decide) rfl rfl rfl ⟨⟨Nat.le_of_ble_eq_true rfl, Nat.le_of_ble_eq_true rfl⟩, Nat.le_of_ble_eq_true rfl, Nat.le_of_ble_eq_true rfl⟩ (Nat.le_of_ble_eq_true rfl) dL_laneOf_4 (Jk_vk 1 6 rfl rfl fun hok4 => ?_)
    refine J_i2l (pc := 7) dL_laneOf_7 ?_
    refine J_last (pc := 8) (vpc rfl) dL_laneOf_8 ?_
    refine J_M (upL M2 62 0 v1.toInt64) rfl ?_
    refine J_goto (pc := 9) (tgt := 15) dL_laneOf_9 (by decide) ?_
    refine J_iconst (v := (0 : Int32)) (pc := 15) dL_laneOf_15 (by decide) ?_
    cases h
    refine J_wide (k' := 1) (n' := 6) (Nat.le_of_ble_eq_true rfl) (Nat.le_of_ble_eq_true rfl) ?_
    exact J_ireturn dL_laneOf_16 rfl rfl rfl rfl rfl
  · by_cases c6 : x5 = 1
    · subst c6
      replace h := ifp rfl h
      refine J_callV (g := mi_X3_laneOf) (ci := 3) (pc := 4) [.int a1] [.int (0 : Int32), .ref 62] mv_X3_laneOf w_909 (show Con E _ _ _ (.inr "java/lang/IndexOutOfBoundsException") _ from (k_X3_laneOf a1 _ hc3)) rfl (by decide) rfl rfl rfl ⟨⟨Nat.le_of_ble_eq_true rfl, Nat.le_of_ble_eq_true rfl⟩, Nat.le_of_ble_eq_true rfl, Nat.le_of_ble_eq_true rfl⟩ (Nat.le_of_ble_eq_true rfl) dL_laneOf_4 (Jk_catch [] [] (0, 9, 12, 13) rfl (fun z hz => by cases hz) rfl (by decide) w_618 w_634 fun q9 => ?_)
      refine J_astore_n (pc := 12) dL_laneOf_12 rfl (Nat.le_of_ble_eq_true rfl) [1, 2, 3, 0] rfl ?_
      refine J_iconst (v := (1 : Int32)) (pc := 13) dL_laneOf_13 (by decide) ?_
      cases h
      refine J_wide (k' := 1) (n' := 6) (Nat.le_of_ble_eq_true rfl) (Nat.le_of_ble_eq_true rfl) ?_
      exact J_ireturn dL_laneOf_14 rfl rfl rfl rfl rfl
    · replace h := ifn c6 h
      cases h
set_option maxHeartbeats 4000000 in
set_option maxRecDepth 100000 in
theorem k_L_placeOf_0_62 {E : En} (a1 : Int32) (M : Wd) {r : Int32} {M' : Wd} (h : F_L_placeOf_0_62 a1 M = some (r, M')) : Con E mi_L_placeOf [.ref 0, .int a1, .ref 62] M (.inl (some (.int r))) M' := by
  unfold F_L_placeOf_0_62 at h
  refine Con.ofH (by decide) rfl (Nat.le_of_ble_eq_true rfl) (fun κ => ?_)
  show J κ E mi_L_placeOf _ 0 0 [(0, .ref 0), (1, .int a1), (2, .ref 62)] M 0 []
  refine J_aload_n (pc := 0) dL_placeOf_0 rfl 2 rfl ?_
  refine J_iconst (v := (0 : Int32)) (pc := 1) dL_placeOf_1 (by decide) ?_
  refine J_aload_n (pc := 2) dL_placeOf_2 rfl 0 rfl ?_
  refine J_iload_n (pc := 3) dL_placeOf_3 rfl 1 rfl ?_
  rcases obindX_e h with ⟨v1, M2, hc3, h⟩ | ⟨x5, M2, hc3, h⟩
  · refine J_callV (g := mi_X3_placeOf) (ci := 3) (pc := 4) [.int a1] [.int (0 : Int32), .ref 62] mv_X3_placeOf w_918 (k_X3_placeOf a1 _ hc3) rfl (by decide) rfl rfl rfl ⟨⟨Nat.le_of_ble_eq_true rfl, Nat.le_of_ble_eq_true rfl⟩, Nat.le_of_ble_eq_true rfl, Nat.le_of_ble_eq_true rfl⟩ (Nat.le_of_ble_eq_true rfl) dL_placeOf_4 (Jk_vk 1 6 rfl rfl fun hok4 => ?_)
    refine J_i2l (pc := 7) dL_placeOf_7 ?_
    refine J_last (pc := 8) (vpc rfl) dL_placeOf_8 ?_
    refine J_M (upL M2 62 0 v1.toInt64) rfl ?_
    refine J_goto (pc := 9) (tgt := 15) dL_placeOf_9 (by decide) ?_
    refine J_iconst (v := (0 : Int32)) (pc := 15) dL_placeOf_15 (by decide) ?_
    cases h
    refine J_wide (k' := 1) (n' := 6) (Nat.le_of_ble_eq_true rfl) (Nat.le_of_ble_eq_true rfl) ?_
    exact J_ireturn dL_placeOf_16 rfl rfl rfl rfl rfl
  · by_cases c6 : x5 = 1
    · subst c6
      replace h := ifp rfl h
      refine J_callV (g := mi_X3_placeOf) (ci := 3) (pc := 4) [.int a1] [.int (0 : Int32), .ref 62] mv_X3_placeOf w_918 (show Con E _ _ _ (.inr "java/lang/IndexOutOfBoundsException") _ from (k_X3_placeOf a1 _ hc3)) rfl (by decide) rfl rfl rfl ⟨⟨Nat.le_of_ble_eq_true rfl, Nat.le_of_ble_eq_true rfl⟩, Nat.le_of_ble_eq_true rfl, Nat.le_of_ble_eq_true rfl⟩ (Nat.le_of_ble_eq_true rfl) dL_placeOf_4 (Jk_catch [] [] (0, 9, 12, 13) rfl (fun z hz => by cases hz) rfl (by decide) w_618 w_634 fun q9 => ?_)
      refine J_astore_n (pc := 12) dL_placeOf_12 rfl (Nat.le_of_ble_eq_true rfl) [1, 2, 3, 0] rfl ?_
      refine J_iconst (v := (1 : Int32)) (pc := 13) dL_placeOf_13 (by decide) ?_
      cases h
      refine J_wide (k' := 1) (n' := 6) (Nat.le_of_ble_eq_true rfl) (Nat.le_of_ble_eq_true rfl) ?_
      exact J_ireturn dL_placeOf_14 rfl rfl rfl rfl rfl
    · replace h := ifn c6 h
      cases h
set_option maxHeartbeats 4000000 in
set_option maxRecDepth 100000 in
theorem k_L_lengthOf_0_62 {E : En} (a1 : Int32) (M : Wd) {r : Int32} {M' : Wd} (h : F_L_lengthOf_0_62 a1 M = some (r, M')) : Con E mi_L_lengthOf [.ref 0, .int a1, .ref 62] M (.inl (some (.int r))) M' := by
  unfold F_L_lengthOf_0_62 at h
  refine Con.ofH (by decide) rfl (Nat.le_of_ble_eq_true rfl) (fun κ => ?_)
  show J κ E mi_L_lengthOf _ 0 0 [(0, .ref 0), (1, .int a1), (2, .ref 62)] M 0 []
  refine J_aload_n (pc := 0) dL_lengthOf_0 rfl 2 rfl ?_
  refine J_iconst (v := (0 : Int32)) (pc := 1) dL_lengthOf_1 (by decide) ?_
  refine J_aload_n (pc := 2) dL_lengthOf_2 rfl 0 rfl ?_
  refine J_iload_n (pc := 3) dL_lengthOf_3 rfl 1 rfl ?_
  rcases obindX_e h with ⟨v1, M2, hc3, h⟩ | ⟨x5, M2, hc3, h⟩
  · refine J_callV (g := mi_X3_lengthOf) (ci := 3) (pc := 4) [.int a1] [.int (0 : Int32), .ref 62] mv_X3_lengthOf w_925 (k_X3_lengthOf a1 _ hc3) rfl (by decide) rfl rfl rfl ⟨⟨Nat.le_of_ble_eq_true rfl, Nat.le_of_ble_eq_true rfl⟩, Nat.le_of_ble_eq_true rfl, Nat.le_of_ble_eq_true rfl⟩ (Nat.le_of_ble_eq_true rfl) dL_lengthOf_4 (Jk_vk 1 6 rfl rfl fun hok4 => ?_)
    refine J_i2l (pc := 7) dL_lengthOf_7 ?_
    refine J_last (pc := 8) (vpc rfl) dL_lengthOf_8 ?_
    refine J_M (upL M2 62 0 v1.toInt64) rfl ?_
    refine J_goto (pc := 9) (tgt := 15) dL_lengthOf_9 (by decide) ?_
    refine J_iconst (v := (0 : Int32)) (pc := 15) dL_lengthOf_15 (by decide) ?_
    cases h
    refine J_wide (k' := 1) (n' := 6) (Nat.le_of_ble_eq_true rfl) (Nat.le_of_ble_eq_true rfl) ?_
    exact J_ireturn dL_lengthOf_16 rfl rfl rfl rfl rfl
  · by_cases c6 : x5 = 1
    · subst c6
      replace h := ifp rfl h
      refine J_callV (g := mi_X3_lengthOf) (ci := 3) (pc := 4) [.int a1] [.int (0 : Int32), .ref 62] mv_X3_lengthOf w_925 (show Con E _ _ _ (.inr "java/lang/IndexOutOfBoundsException") _ from (k_X3_lengthOf a1 _ hc3)) rfl (by decide) rfl rfl rfl ⟨⟨Nat.le_of_ble_eq_true rfl, Nat.le_of_ble_eq_true rfl⟩, Nat.le_of_ble_eq_true rfl, Nat.le_of_ble_eq_true rfl⟩ (Nat.le_of_ble_eq_true rfl) dL_lengthOf_4 (Jk_catch [] [] (0, 9, 12, 13) rfl (fun z hz => by cases hz) rfl (by decide) w_618 w_634 fun q9 => ?_)
      refine J_astore_n (pc := 12) dL_lengthOf_12 rfl (Nat.le_of_ble_eq_true rfl) [1, 2, 3, 0] rfl ?_
      refine J_iconst (v := (1 : Int32)) (pc := 13) dL_lengthOf_13 (by decide) ?_
      cases h
      refine J_wide (k' := 1) (n' := 6) (Nat.le_of_ble_eq_true rfl) (Nat.le_of_ble_eq_true rfl) ?_
      exact J_ireturn dL_lengthOf_14 rfl rfl rfl rfl rfl
    · replace h := ifn c6 h
      cases h
set_option maxHeartbeats 4000000 in
set_option maxRecDepth 100000 in
theorem k_L_carOn_0_62 {E : En} (a1 : Int32) (M : Wd) {r : Int32} {M' : Wd} (h : F_L_carOn_0_62 a1 M = some (r, M')) : Con E mi_L_carOn [.ref 0, .int a1, .ref 62] M (.inl (some (.int r))) M' := by
  unfold F_L_carOn_0_62 at h
  refine Con.ofH (by decide) rfl (Nat.le_of_ble_eq_true rfl) (fun κ => ?_)
  show J κ E mi_L_carOn _ 0 0 [(0, .ref 0), (1, .int a1), (2, .ref 62)] M 0 []
  refine J_aload_n (pc := 0) dL_carOn_0 rfl 2 rfl ?_
  refine J_iconst (v := (0 : Int32)) (pc := 1) dL_carOn_1 (by decide) ?_
  refine J_aload_n (pc := 2) dL_carOn_2 rfl 0 rfl ?_
  refine J_iload_n (pc := 3) dL_carOn_3 rfl 1 rfl ?_
  rcases obindX_e h with ⟨v1, M2, hc3, h⟩ | ⟨x5, M2, hc3, h⟩
  · refine J_callV (g := mi_X3_carOn) (ci := 3) (pc := 4) [.int a1] [.int (0 : Int32), .ref 62] mv_X3_carOn w_932 (k_X3_carOn a1 _ hc3) rfl (by decide) rfl rfl rfl ⟨⟨Nat.le_of_ble_eq_true rfl, Nat.le_of_ble_eq_true rfl⟩, Nat.le_of_ble_eq_true rfl, Nat.le_of_ble_eq_true rfl⟩ (Nat.le_of_ble_eq_true rfl) dL_carOn_4 (Jk_vk 1 6 rfl rfl fun hok4 => ?_)
    refine J_i2l (pc := 7) dL_carOn_7 ?_
    refine J_last (pc := 8) (vpc rfl) dL_carOn_8 ?_
    refine J_M (upL M2 62 0 v1.toInt64) rfl ?_
    refine J_goto (pc := 9) (tgt := 15) dL_carOn_9 (by decide) ?_
    refine J_iconst (v := (0 : Int32)) (pc := 15) dL_carOn_15 (by decide) ?_
    cases h
    refine J_wide (k' := 1) (n' := 6) (Nat.le_of_ble_eq_true rfl) (Nat.le_of_ble_eq_true rfl) ?_
    exact J_ireturn dL_carOn_16 rfl rfl rfl rfl rfl
  · by_cases c6 : x5 = 1
    · subst c6
      replace h := ifp rfl h
      refine J_callV (g := mi_X3_carOn) (ci := 3) (pc := 4) [.int a1] [.int (0 : Int32), .ref 62] mv_X3_carOn w_932 (show Con E _ _ _ (.inr "java/lang/IndexOutOfBoundsException") _ from (k_X3_carOn a1 _ hc3)) rfl (by decide) rfl rfl rfl ⟨⟨Nat.le_of_ble_eq_true rfl, Nat.le_of_ble_eq_true rfl⟩, Nat.le_of_ble_eq_true rfl, Nat.le_of_ble_eq_true rfl⟩ (Nat.le_of_ble_eq_true rfl) dL_carOn_4 (Jk_catch [] [] (0, 9, 12, 13) rfl (fun z hz => by cases hz) rfl (by decide) w_618 w_634 fun q9 => ?_)
      refine J_astore_n (pc := 12) dL_carOn_12 rfl (Nat.le_of_ble_eq_true rfl) [1, 2, 3, 0] rfl ?_
      refine J_iconst (v := (1 : Int32)) (pc := 13) dL_carOn_13 (by decide) ?_
      cases h
      refine J_wide (k' := 1) (n' := 6) (Nat.le_of_ble_eq_true rfl) (Nat.le_of_ble_eq_true rfl) ?_
      exact J_ireturn dL_carOn_14 rfl rfl rfl rfl rfl
    · replace h := ifn c6 h
      cases h
set_option maxHeartbeats 4000000 in
set_option maxRecDepth 100000 in
theorem k_L_isWall_0_62 {E : En} (a1 : Int32) (M : Wd) {r : Int32} {M' : Wd} (h : F_L_isWall_0_62 a1 M = some (r, M')) : Con E mi_L_isWall [.ref 0, .int a1, .ref 62] M (.inl (some (.int r))) M' := by
  unfold F_L_isWall_0_62 at h
  refine Con.ofH (by decide) rfl (Nat.le_of_ble_eq_true rfl) (fun κ => ?_)
  show J κ E mi_L_isWall _ 0 0 [(0, .ref 0), (1, .int a1), (2, .ref 62)] M 0 []
  refine J_aload_n (pc := 0) dL_isWall_0 rfl 2 rfl ?_
  refine J_iconst (v := (0 : Int32)) (pc := 1) dL_isWall_1 (by decide) ?_
  refine J_aload_n (pc := 2) dL_isWall_2 rfl 0 rfl ?_
  refine J_iload_n (pc := 3) dL_isWall_3 rfl 1 rfl ?_
  rcases obindX_e h with ⟨v1, M2, hc3, h⟩ | ⟨x5, M2, hc3, h⟩
  · refine J_callV (g := mi_X3_isWall) (ci := 3) (pc := 4) [.int a1] [.int (0 : Int32), .ref 62] mv_X3_isWall w_941 (k_X3_isWall a1 _ hc3) rfl (by decide) rfl rfl rfl ⟨⟨Nat.le_of_ble_eq_true rfl, Nat.le_of_ble_eq_true rfl⟩, Nat.le_of_ble_eq_true rfl, Nat.le_of_ble_eq_true rfl⟩ (Nat.le_of_ble_eq_true rfl) dL_isWall_4 (Jk_vk 1 6 rfl rfl fun hok4 => ?_)
    obtain ⟨v6, e7, h⟩ := bnd_e h
    refine J_join [] M2 15 [.long v6, .int (0 : Int32), .ref 62] ?_ (fun hJ => ?_)
    · refine J_last (pc := 15) (vpc rfl) dL_isWall_15 ?_
      refine J_M (upL M2 62 0 v6) rfl ?_
      refine J_goto (pc := 16) (tgt := 22) dL_isWall_16 (by decide) ?_
      refine J_iconst (v := (0 : Int32)) (pc := 22) dL_isWall_22 (by decide) ?_
      cases h
      refine J_wide (k' := 1) (n' := 6) (Nat.le_of_ble_eq_true rfl) (Nat.le_of_ble_eq_true rfl) ?_
      exact J_ireturn dL_isWall_23 rfl rfl rfl rfl rfl
    · refine J_if_eq (pc := 7) (tgt := 14) dL_isWall_7 (by decide) (fun c8 => ?_) (fun c8 => ?_)
      · refine J_lconst (v := (0 : Int64)) (pc := 14) dL_isWall_14 (by decide) ?_
        refine J_sub [] rfl ?_
        refine J_topl (y := v6) (by rw [e7, if_pos c8]) ?_
        exact hJ
      · refine J_lconst (v := (1 : Int64)) (pc := 10) dL_isWall_10 (by decide) ?_
        refine J_goto (pc := 11) (tgt := 15) dL_isWall_11 (by decide) ?_
        refine J_sub [] rfl ?_
        refine J_topl (y := v6) (by rw [e7, if_neg c8]) ?_
        exact hJ
  · by_cases c9 : x5 = 1
    · subst c9
      replace h := ifp rfl h
      refine J_callV (g := mi_X3_isWall) (ci := 3) (pc := 4) [.int a1] [.int (0 : Int32), .ref 62] mv_X3_isWall w_941 (show Con E _ _ _ (.inr "java/lang/IndexOutOfBoundsException") _ from (k_X3_isWall a1 _ hc3)) rfl (by decide) rfl rfl rfl ⟨⟨Nat.le_of_ble_eq_true rfl, Nat.le_of_ble_eq_true rfl⟩, Nat.le_of_ble_eq_true rfl, Nat.le_of_ble_eq_true rfl⟩ (Nat.le_of_ble_eq_true rfl) dL_isWall_4 (Jk_catch [] [] (0, 16, 19, 13) rfl (fun z hz => by cases hz) rfl (by decide) w_618 w_634 fun q9 => ?_)
      refine J_astore_n (pc := 19) dL_isWall_19 rfl (Nat.le_of_ble_eq_true rfl) [1, 2, 3, 0] rfl ?_
      refine J_iconst (v := (1 : Int32)) (pc := 20) dL_isWall_20 (by decide) ?_
      cases h
      refine J_wide (k' := 1) (n' := 6) (Nat.le_of_ble_eq_true rfl) (Nat.le_of_ble_eq_true rfl) ?_
      exact J_ireturn dL_isWall_21 rfl rfl rfl rfl rfl
    · replace h := ifn c9 h
      cases h
set_option maxHeartbeats 4000000 in
set_option maxRecDepth 100000 in
theorem k_L_room_0_62 {E : En} (a1 : Int32) (a2 : Int32) (M : Wd) {r : Int32} {M' : Wd} (h : F_L_room_0_62 a1 a2 M = some (r, M')) : Con E mi_L_room [.ref 0, .int a1, .int a2, .ref 62] M (.inl (some (.int r))) M' := by
  unfold F_L_room_0_62 at h
  refine Con.ofH (by decide) rfl (Nat.le_of_ble_eq_true rfl) (fun κ => ?_)
  show J κ E mi_L_room _ 0 0 [(0, .ref 0), (1, .int a1), (2, .int a2), (3, .ref 62)] M 0 []
  refine J_aload_n (pc := 0) dL_room_0 rfl 3 rfl ?_
  refine J_iconst (v := (0 : Int32)) (pc := 1) dL_room_1 (by decide) ?_
  refine J_aload_n (pc := 2) dL_room_2 rfl 0 rfl ?_
  refine J_iload_n (pc := 3) dL_room_3 rfl 1 rfl ?_
  refine J_iload_n (pc := 4) dL_room_4 rfl 2 rfl ?_
  rcases obindX_e h with ⟨v1, M2, hc3, h⟩ | ⟨x5, M2, hc3, h⟩
  · refine J_callV (g := mi_X3_room) (ci := 3) (pc := 5) [.int a1, .int a2] [.int (0 : Int32), .ref 62] mv_X3_room w_948 (k_X3_room a1 a2 _ hc3) rfl (by decide) rfl rfl rfl ⟨⟨Nat.le_of_ble_eq_true rfl, Nat.le_of_ble_eq_true rfl⟩, Nat.le_of_ble_eq_true rfl, Nat.le_of_ble_eq_true rfl⟩ (Nat.le_of_ble_eq_true rfl) dL_room_5 (Jk_vk 1 6 rfl rfl fun hok4 => ?_)
    refine J_i2l (pc := 8) dL_room_8 ?_
    refine J_last (pc := 9) (vpc rfl) dL_room_9 ?_
    refine J_M (upL M2 62 0 v1.toInt64) rfl ?_
    refine J_goto (pc := 10) (tgt := 17) dL_room_10 (by decide) ?_
    refine J_iconst (v := (0 : Int32)) (pc := 17) dL_room_17 (by decide) ?_
    cases h
    refine J_wide (k' := 1) (n' := 6) (Nat.le_of_ble_eq_true rfl) (Nat.le_of_ble_eq_true rfl) ?_
    exact J_ireturn dL_room_18 rfl rfl rfl rfl rfl
  · by_cases c6 : x5 = 1
    · subst c6
      replace h := ifp rfl h
      refine J_callV (g := mi_X3_room) (ci := 3) (pc := 5) [.int a1, .int a2] [.int (0 : Int32), .ref 62] mv_X3_room w_948 (show Con E _ _ _ (.inr "java/lang/IndexOutOfBoundsException") _ from (k_X3_room a1 a2 _ hc3)) rfl (by decide) rfl rfl rfl ⟨⟨Nat.le_of_ble_eq_true rfl, Nat.le_of_ble_eq_true rfl⟩, Nat.le_of_ble_eq_true rfl, Nat.le_of_ble_eq_true rfl⟩ (Nat.le_of_ble_eq_true rfl) dL_room_5 (Jk_catch [] [] (0, 10, 13, 13) rfl (fun z hz => by cases hz) rfl (by decide) w_618 w_634 fun q9 => ?_)
      refine J_astore (pc := 13) dL_room_13 (Nat.le_of_ble_eq_true rfl) [1, 2, 3, 4, 0] rfl ?_
      refine J_iconst (v := (1 : Int32)) (pc := 15) dL_room_15 (by decide) ?_
      cases h
      refine J_wide (k' := 1) (n' := 6) (Nat.le_of_ble_eq_true rfl) (Nat.le_of_ble_eq_true rfl) ?_
      exact J_ireturn dL_room_16 rfl rfl rfl rfl rfl
    · replace h := ifn c6 h
      cases h
set_option maxHeartbeats 4000000 in
set_option maxRecDepth 100000 in
theorem k_L_carOfSlide_0_62 {E : En} (a1 : Int32) (M : Wd) {r : Int32} {M' : Wd} (h : F_L_carOfSlide_0_62 a1 M = some (r, M')) : Con E mi_L_carOfSlide [.ref 0, .int a1, .ref 62] M (.inl (some (.int r))) M' := by
  unfold F_L_carOfSlide_0_62 at h
  refine Con.ofH (by decide) rfl (Nat.le_of_ble_eq_true rfl) (fun κ => ?_)
  show J κ E mi_L_carOfSlide _ 0 0 [(0, .ref 0), (1, .int a1), (2, .ref 62)] M 0 []
  refine J_aload_n (pc := 0) dL_carOfSlide_0 rfl 2 rfl ?_
  refine J_iconst (v := (0 : Int32)) (pc := 1) dL_carOfSlide_1 (by decide) ?_
  refine J_aload_n (pc := 2) dL_carOfSlide_2 rfl 0 rfl ?_
  refine J_iload_n (pc := 3) dL_carOfSlide_3 rfl 1 rfl ?_
  rcases obindX_e h with ⟨v1, M2, hc3, h⟩ | ⟨x5, M2, hc3, h⟩
  · refine J_callV (g := mi_X3_carOfSlide) (ci := 3) (pc := 4) [.int a1] [.int (0 : Int32), .ref 62] mv_X3_carOfSlide w_955 (k_X3_carOfSlide a1 _ hc3) rfl (by decide) rfl rfl rfl ⟨⟨Nat.le_of_ble_eq_true rfl, Nat.le_of_ble_eq_true rfl⟩, Nat.le_of_ble_eq_true rfl, Nat.le_of_ble_eq_true rfl⟩ (Nat.le_of_ble_eq_true rfl) dL_carOfSlide_4 (Jk_vk 1 6 rfl rfl fun hok4 => ?_)
    refine J_i2l (pc := 7) dL_carOfSlide_7 ?_
    refine J_last (pc := 8) (vpc rfl) dL_carOfSlide_8 ?_
    refine J_M (upL M2 62 0 v1.toInt64) rfl ?_
    refine J_goto (pc := 9) (tgt := 15) dL_carOfSlide_9 (by decide) ?_
    refine J_iconst (v := (0 : Int32)) (pc := 15) dL_carOfSlide_15 (by decide) ?_
    cases h
    refine J_wide (k' := 1) (n' := 6) (Nat.le_of_ble_eq_true rfl) (Nat.le_of_ble_eq_true rfl) ?_
    exact J_ireturn dL_carOfSlide_16 rfl rfl rfl rfl rfl
  · by_cases c6 : x5 = 1
    · subst c6
      replace h := ifp rfl h
      refine J_callV (g := mi_X3_carOfSlide) (ci := 3) (pc := 4) [.int a1] [.int (0 : Int32), .ref 62] mv_X3_carOfSlide w_955 (show Con E _ _ _ (.inr "java/lang/IndexOutOfBoundsException") _ from (k_X3_carOfSlide a1 _ hc3)) rfl (by decide) rfl rfl rfl ⟨⟨Nat.le_of_ble_eq_true rfl, Nat.le_of_ble_eq_true rfl⟩, Nat.le_of_ble_eq_true rfl, Nat.le_of_ble_eq_true rfl⟩ (Nat.le_of_ble_eq_true rfl) dL_carOfSlide_4 (Jk_catch [] [] (0, 9, 12, 13) rfl (fun z hz => by cases hz) rfl (by decide) w_618 w_634 fun q9 => ?_)
      refine J_astore_n (pc := 12) dL_carOfSlide_12 rfl (Nat.le_of_ble_eq_true rfl) [1, 2, 3, 0] rfl ?_
      refine J_iconst (v := (1 : Int32)) (pc := 13) dL_carOfSlide_13 (by decide) ?_
      cases h
      refine J_wide (k' := 1) (n' := 6) (Nat.le_of_ble_eq_true rfl) (Nat.le_of_ble_eq_true rfl) ?_
      exact J_ireturn dL_carOfSlide_14 rfl rfl rfl rfl rfl
    · replace h := ifn c6 h
      cases h
set_option maxHeartbeats 4000000 in
set_option maxRecDepth 100000 in
theorem k_L_changeBySlide_0_62 {E : En} (a1 : Int32) (M : Wd) {r : Int32} {M' : Wd} (h : F_L_changeBySlide_0_62 a1 M = some (r, M')) : Con E mi_L_changeBySlide [.ref 0, .int a1, .ref 62] M (.inl (some (.int r))) M' := by
  unfold F_L_changeBySlide_0_62 at h
  refine Con.ofH (by decide) rfl (Nat.le_of_ble_eq_true rfl) (fun κ => ?_)
  show J κ E mi_L_changeBySlide _ 0 0 [(0, .ref 0), (1, .int a1), (2, .ref 62)] M 0 []
  refine J_aload_n (pc := 0) dL_changeBySlide_0 rfl 2 rfl ?_
  refine J_iconst (v := (0 : Int32)) (pc := 1) dL_changeBySlide_1 (by decide) ?_
  refine J_aload_n (pc := 2) dL_changeBySlide_2 rfl 0 rfl ?_
  refine J_iload_n (pc := 3) dL_changeBySlide_3 rfl 1 rfl ?_
  rcases obindX_e h with ⟨v1, M2, hc3, h⟩ | ⟨x5, M2, hc3, h⟩
  · refine J_callV (g := mi_X3_changeBySlide) (ci := 3) (pc := 4) [.int a1] [.int (0 : Int32), .ref 62] mv_X3_changeBySlide w_964 (k_X3_changeBySlide a1 _ hc3) rfl (by decide) rfl rfl rfl ⟨⟨Nat.le_of_ble_eq_true rfl, Nat.le_of_ble_eq_true rfl⟩, Nat.le_of_ble_eq_true rfl, Nat.le_of_ble_eq_true rfl⟩ (Nat.le_of_ble_eq_true rfl) dL_changeBySlide_4 (Jk_vk 1 6 rfl rfl fun hok4 => ?_)
    refine J_i2l (pc := 7) dL_changeBySlide_7 ?_
    refine J_last (pc := 8) (vpc rfl) dL_changeBySlide_8 ?_
    refine J_M (upL M2 62 0 v1.toInt64) rfl ?_
    refine J_goto (pc := 9) (tgt := 15) dL_changeBySlide_9 (by decide) ?_
    refine J_iconst (v := (0 : Int32)) (pc := 15) dL_changeBySlide_15 (by decide) ?_
    cases h
    refine J_wide (k' := 1) (n' := 6) (Nat.le_of_ble_eq_true rfl) (Nat.le_of_ble_eq_true rfl) ?_
    exact J_ireturn dL_changeBySlide_16 rfl rfl rfl rfl rfl
  · by_cases c6 : x5 = 1
    · subst c6
      replace h := ifp rfl h
      refine J_callV (g := mi_X3_changeBySlide) (ci := 3) (pc := 4) [.int a1] [.int (0 : Int32), .ref 62] mv_X3_changeBySlide w_964 (show Con E _ _ _ (.inr "java/lang/IndexOutOfBoundsException") _ from (k_X3_changeBySlide a1 _ hc3)) rfl (by decide) rfl rfl rfl ⟨⟨Nat.le_of_ble_eq_true rfl, Nat.le_of_ble_eq_true rfl⟩, Nat.le_of_ble_eq_true rfl, Nat.le_of_ble_eq_true rfl⟩ (Nat.le_of_ble_eq_true rfl) dL_changeBySlide_4 (Jk_catch [] [] (0, 9, 12, 13) rfl (fun z hz => by cases hz) rfl (by decide) w_618 w_634 fun q9 => ?_)
      refine J_astore_n (pc := 12) dL_changeBySlide_12 rfl (Nat.le_of_ble_eq_true rfl) [1, 2, 3, 0] rfl ?_
      refine J_iconst (v := (1 : Int32)) (pc := 13) dL_changeBySlide_13 (by decide) ?_
      cases h
      refine J_wide (k' := 1) (n' := 6) (Nat.le_of_ble_eq_true rfl) (Nat.le_of_ble_eq_true rfl) ?_
      exact J_ireturn dL_changeBySlide_14 rfl rfl rfl rfl rfl
    · replace h := ifn c6 h
      cases h
set_option maxHeartbeats 4000000 in
set_option maxRecDepth 100000 in
theorem k_L_stepsOf_0_62 {E : En} (a1 : Int32) (M : Wd) {r : Int32} {M' : Wd} (h : F_L_stepsOf_0_62 a1 M = some (r, M')) : Con E mi_L_stepsOf [.ref 0, .int a1, .ref 62] M (.inl (some (.int r))) M' := by
  unfold F_L_stepsOf_0_62 at h
  refine Con.ofH (by decide) rfl (Nat.le_of_ble_eq_true rfl) (fun κ => ?_)
  show J κ E mi_L_stepsOf _ 0 0 [(0, .ref 0), (1, .int a1), (2, .ref 62)] M 0 []
  refine J_aload_n (pc := 0) dL_stepsOf_0 rfl 2 rfl ?_
  refine J_iconst (v := (0 : Int32)) (pc := 1) dL_stepsOf_1 (by decide) ?_
  refine J_aload_n (pc := 2) dL_stepsOf_2 rfl 0 rfl ?_
  refine J_iload_n (pc := 3) dL_stepsOf_3 rfl 1 rfl ?_
  rcases obindX_e h with ⟨v1, M2, hc3, h⟩ | ⟨x5, M2, hc3, h⟩
  · refine J_callV (g := mi_X3_stepsOf) (ci := 3) (pc := 4) [.int a1] [.int (0 : Int32), .ref 62] mv_X3_stepsOf w_971 (k_X3_stepsOf a1 _ hc3) rfl (by decide) rfl rfl rfl ⟨⟨Nat.le_of_ble_eq_true rfl, Nat.le_of_ble_eq_true rfl⟩, Nat.le_of_ble_eq_true rfl, Nat.le_of_ble_eq_true rfl⟩ (Nat.le_of_ble_eq_true rfl) dL_stepsOf_4 (Jk_vk 1 6 rfl rfl fun hok4 => ?_)
    refine J_i2l (pc := 7) dL_stepsOf_7 ?_
    refine J_last (pc := 8) (vpc rfl) dL_stepsOf_8 ?_
    refine J_M (upL M2 62 0 v1.toInt64) rfl ?_
    refine J_goto (pc := 9) (tgt := 15) dL_stepsOf_9 (by decide) ?_
    refine J_iconst (v := (0 : Int32)) (pc := 15) dL_stepsOf_15 (by decide) ?_
    cases h
    refine J_wide (k' := 1) (n' := 6) (Nat.le_of_ble_eq_true rfl) (Nat.le_of_ble_eq_true rfl) ?_
    exact J_ireturn dL_stepsOf_16 rfl rfl rfl rfl rfl
  · by_cases c6 : x5 = 1
    · subst c6
      replace h := ifp rfl h
      refine J_callV (g := mi_X3_stepsOf) (ci := 3) (pc := 4) [.int a1] [.int (0 : Int32), .ref 62] mv_X3_stepsOf w_971 (show Con E _ _ _ (.inr "java/lang/IndexOutOfBoundsException") _ from (k_X3_stepsOf a1 _ hc3)) rfl (by decide) rfl rfl rfl ⟨⟨Nat.le_of_ble_eq_true rfl, Nat.le_of_ble_eq_true rfl⟩, Nat.le_of_ble_eq_true rfl, Nat.le_of_ble_eq_true rfl⟩ (Nat.le_of_ble_eq_true rfl) dL_stepsOf_4 (Jk_catch [] [] (0, 9, 12, 13) rfl (fun z hz => by cases hz) rfl (by decide) w_618 w_634 fun q9 => ?_)
      refine J_astore_n (pc := 12) dL_stepsOf_12 rfl (Nat.le_of_ble_eq_true rfl) [1, 2, 3, 0] rfl ?_
      refine J_iconst (v := (1 : Int32)) (pc := 13) dL_stepsOf_13 (by decide) ?_
      cases h
      refine J_wide (k' := 1) (n' := 6) (Nat.le_of_ble_eq_true rfl) (Nat.le_of_ble_eq_true rfl) ?_
      exact J_ireturn dL_stepsOf_14 rfl rfl rfl rfl rfl
    · replace h := ifn c6 h
      cases h
set_option maxHeartbeats 4000000 in
set_option maxRecDepth 100000 in
theorem k_L_nextCar_0_62 {E : En} (M : Wd) {r : Int32} {M' : Wd} (h : F_L_nextCar_0_62 M = some (r, M')) : Con E mi_L_nextCar [.ref 0, .ref 62] M (.inl (some (.int r))) M' := by
  unfold F_L_nextCar_0_62 at h
  refine Con.ofH (by decide) rfl (Nat.le_of_ble_eq_true rfl) (fun κ => ?_)
  show J κ E mi_L_nextCar _ 0 0 [(0, .ref 0), (1, .ref 62)] M 0 []
  refine J_aload_n (pc := 0) dL_nextCar_0 rfl 1 rfl ?_
  refine J_iconst (v := (0 : Int32)) (pc := 1) dL_nextCar_1 (by decide) ?_
  refine J_aload_n (pc := 2) dL_nextCar_2 rfl 0 rfl ?_
  rcases obindX_e h with ⟨v1, M2, hc3, h⟩ | ⟨x5, M2, hc3, h⟩
  · refine J_callV (g := mi_X3_nextCar) (ci := 3) (pc := 3) [] [.int (0 : Int32), .ref 62] mv_X3_nextCar w_978 (k_X3_nextCar _ hc3) rfl (by decide) rfl rfl rfl ⟨⟨Nat.le_of_ble_eq_true rfl, Nat.le_of_ble_eq_true rfl⟩, Nat.le_of_ble_eq_true rfl, Nat.le_of_ble_eq_true rfl⟩ (Nat.le_of_ble_eq_true rfl) dL_nextCar_3 (Jk_vk 1 6 rfl rfl fun hok4 => ?_)
    refine J_i2l (pc := 6) dL_nextCar_6 ?_
    refine J_last (pc := 7) (vpc rfl) dL_nextCar_7 ?_
    refine J_M (upL M2 62 0 v1.toInt64) rfl ?_
    refine J_goto (pc := 8) (tgt := 14) dL_nextCar_8 (by decide) ?_
    refine J_iconst (v := (0 : Int32)) (pc := 14) dL_nextCar_14 (by decide) ?_
    cases h
    refine J_wide (k' := 1) (n' := 6) (Nat.le_of_ble_eq_true rfl) (Nat.le_of_ble_eq_true rfl) ?_
    exact J_ireturn dL_nextCar_15 rfl rfl rfl rfl rfl
  · by_cases c6 : x5 = 3
    · subst c6
      replace h := ifp rfl h
      refine J_callV (g := mi_X3_nextCar) (ci := 3) (pc := 3) [] [.int (0 : Int32), .ref 62] mv_X3_nextCar w_978 (show Con E _ _ _ (.inr "java/lang/IllegalStateException") _ from (k_X3_nextCar _ hc3)) rfl (by decide) rfl rfl rfl ⟨⟨Nat.le_of_ble_eq_true rfl, Nat.le_of_ble_eq_true rfl⟩, Nat.le_of_ble_eq_true rfl, Nat.le_of_ble_eq_true rfl⟩ (Nat.le_of_ble_eq_true rfl) dL_nextCar_3 (Jk_catch [] [] (0, 8, 11, 17) rfl (fun z hz => by cases hz) rfl (by decide) w_620 w_718 fun q9 => ?_)
      refine J_astore_n (pc := 11) dL_nextCar_11 rfl (Nat.le_of_ble_eq_true rfl) [1, 2, 0] rfl ?_
      refine J_iconst (v := (1 : Int32)) (pc := 12) dL_nextCar_12 (by decide) ?_
      cases h
      refine J_wide (k' := 1) (n' := 6) (Nat.le_of_ble_eq_true rfl) (Nat.le_of_ble_eq_true rfl) ?_
      exact J_ireturn dL_nextCar_13 rfl rfl rfl rfl rfl
    · replace h := ifn c6 h
      cases h

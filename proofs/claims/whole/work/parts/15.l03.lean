/-! ===== walks of the law's helpers, 2 ===== -/
set_option maxHeartbeats 4000000 in
set_option maxRecDepth 100000 in
theorem k_L_nextChange_0_62 {E : En} (M : Wd) {r : Int32} {M' : Wd} (h : F_L_nextChange_0_62 M = some (r, M')) : Con E mi_L_nextChange [.ref 0, .ref 62] M (.inl (some (.int r))) M' := by
  unfold F_L_nextChange_0_62 at h
  refine Con.ofH (by decide) rfl (Nat.le_of_ble_eq_true rfl) (fun κ => ?_)
  show J κ E mi_L_nextChange _ 0 0 [(0, .ref 0), (1, .ref 62)] M 0 []
  refine J_aload_n (pc := 0) dL_nextChange_0 rfl 1 rfl ?_
  refine J_iconst (v := (0 : Int32)) (pc := 1) dL_nextChange_1 (by decide) ?_
  refine J_aload_n (pc := 2) dL_nextChange_2 rfl 0 rfl ?_
  rcases obindX_e h with ⟨v1, M2, hc3, h⟩ | ⟨x5, M2, hc3, h⟩
  · refine J_callV (g := mi_X3_nextChange) (ci := 3) (pc := 3) [] [.int (0 : Int32), .ref 62] mv_X3_nextChange w_990 (k_X3_nextChange _ hc3) rfl (by decide) rfl rfl rfl ⟨⟨Nat.le_of_ble_eq_true rfl, Nat.le_of_ble_eq_true rfl⟩, Nat.le_of_ble_eq_true rfl, Nat.le_of_ble_eq_true rfl⟩ (Nat.le_of_ble_eq_true rfl) dL_nextChange_3 (Jk_vk 1 6 rfl rfl fun hok4 => ?_)
    refine J_i2l (pc := 6) dL_nextChange_6 ?_
    refine J_last (pc := 7) (vpc rfl) dL_nextChange_7 ?_
    refine J_M (upL M2 62 0 v1.toInt64) rfl ?_
    refine J_goto (pc := 8) (tgt := 14) dL_nextChange_8 (by decide) ?_
    refine J_iconst (v := (0 : Int32)) (pc := 14) dL_nextChange_14 (by decide) ?_
    cases h
    refine J_wide (k' := 1) (n' := 6) (Nat.le_of_ble_eq_true rfl) (Nat.le_of_ble_eq_true rfl) ?_
    exact J_ireturn dL_nextChange_15 rfl rfl rfl rfl rfl
  · by_cases c6 : x5 = 3
    · subst c6
      replace h := ifp rfl h
      refine J_callV (g := mi_X3_nextChange) (ci := 3) (pc := 3) [] [.int (0 : Int32), .ref 62] mv_X3_nextChange w_990 (show Con E _ _ _ (.inr "java/lang/IllegalStateException") _ from (k_X3_nextChange _ hc3)) rfl (by decide) rfl rfl rfl ⟨⟨Nat.le_of_ble_eq_true rfl, Nat.le_of_ble_eq_true rfl⟩, Nat.le_of_ble_eq_true rfl, Nat.le_of_ble_eq_true rfl⟩ (Nat.le_of_ble_eq_true rfl) dL_nextChange_3 (Jk_catch [] [] (0, 8, 11, 17) rfl (fun z hz => by cases hz) rfl (by decide) w_620 w_718 fun q9 => ?_)
      refine J_astore_n (pc := 11) dL_nextChange_11 rfl (Nat.le_of_ble_eq_true rfl) [1, 2, 0] rfl ?_
      refine J_iconst (v := (1 : Int32)) (pc := 12) dL_nextChange_12 (by decide) ?_
      cases h
      refine J_wide (k' := 1) (n' := 6) (Nat.le_of_ble_eq_true rfl) (Nat.le_of_ble_eq_true rfl) ?_
      exact J_ireturn dL_nextChange_13 rfl rfl rfl rfl rfl
    · replace h := ifn c6 h
      cases h
set_option maxHeartbeats 4000000 in
set_option maxRecDepth 100000 in
theorem k_L_fewestBehind_0_62 {E : En} (a1 : Int32) (a2 : Int32) (M : Wd) {r : Int32} {M' : Wd} (h : F_L_fewestBehind_0_62 a1 a2 M = some (r, M')) : Con E mi_L_fewestBehind [.ref 0, .int a1, .int a2, .ref 62] M (.inl (some (.int r))) M' := by
  unfold F_L_fewestBehind_0_62 at h
  refine Con.ofH (by decide) rfl (Nat.le_of_ble_eq_true rfl) (fun κ => ?_)
  show J κ E mi_L_fewestBehind _ 0 0 [(0, .ref 0), (1, .int a1), (2, .int a2), (3, .ref 62)] M 0 []
  refine J_aload_n (pc := 0) dL_fewestBehind_0 rfl 3 rfl ?_
  refine J_iconst (v := (0 : Int32)) (pc := 1) dL_fewestBehind_1 (by decide) ?_
  refine J_aload_n (pc := 2) dL_fewestBehind_2 rfl 0 rfl ?_
  refine J_iload_n (pc := 3) dL_fewestBehind_3 rfl 1 rfl ?_
  refine J_iload_n (pc := 4) dL_fewestBehind_4 rfl 2 rfl ?_
  rcases obindX_e h with ⟨v1, M2, hc3, h⟩ | ⟨x5, M2, hc3, h⟩
  · refine J_callV (g := mi_X3_fewestBehind) (ci := 3) (pc := 5) [.int a1, .int a2] [.int (0 : Int32), .ref 62] mv_X3_fewestBehind w_997 (k_X3_fewestBehind a1 a2 _ hc3) rfl (by decide) rfl rfl rfl ⟨⟨Nat.le_of_ble_eq_true rfl, Nat.le_of_ble_eq_true rfl⟩, Nat.le_of_ble_eq_true rfl, Nat.le_of_ble_eq_true rfl⟩ (Nat.le_of_ble_eq_true rfl) dL_fewestBehind_5 (Jk_vk 1 6 rfl rfl fun hok4 => ?_)
    refine J_i2l (pc := 8) dL_fewestBehind_8 ?_
    refine J_last (pc := 9) (vpc rfl) dL_fewestBehind_9 ?_
    refine J_M (upL M2 62 0 v1.toInt64) rfl ?_
    refine J_goto (pc := 10) (tgt := 25) dL_fewestBehind_10 (by decide) ?_
    refine J_iconst (v := (0 : Int32)) (pc := 25) dL_fewestBehind_25 (by decide) ?_
    cases h
    refine J_wide (k' := 1) (n' := 6) (Nat.le_of_ble_eq_true rfl) (Nat.le_of_ble_eq_true rfl) ?_
    exact J_ireturn dL_fewestBehind_26 rfl rfl rfl rfl rfl
  · by_cases c6 : x5 = 1
    · subst c6
      replace h := ifp rfl h
      refine J_callV (g := mi_X3_fewestBehind) (ci := 3) (pc := 5) [.int a1, .int a2] [.int (0 : Int32), .ref 62] mv_X3_fewestBehind w_997 (show Con E _ _ _ (.inr "java/lang/IndexOutOfBoundsException") _ from (k_X3_fewestBehind a1 a2 _ hc3)) rfl (by decide) rfl rfl rfl ⟨⟨Nat.le_of_ble_eq_true rfl, Nat.le_of_ble_eq_true rfl⟩, Nat.le_of_ble_eq_true rfl, Nat.le_of_ble_eq_true rfl⟩ (Nat.le_of_ble_eq_true rfl) dL_fewestBehind_5 (Jk_catch [] [(0, 10, 17, 15), (0, 10, 21, 17)] (0, 10, 13, 13) rfl (fun z hz => by cases hz) rfl (by decide) w_618 w_634 fun q9 => ?_)
      refine J_astore (pc := 13) dL_fewestBehind_13 (Nat.le_of_ble_eq_true rfl) [1, 2, 3, 4, 0] rfl ?_
      refine J_iconst (v := (1 : Int32)) (pc := 15) dL_fewestBehind_15 (by decide) ?_
      cases h
      refine J_wide (k' := 1) (n' := 6) (Nat.le_of_ble_eq_true rfl) (Nat.le_of_ble_eq_true rfl) ?_
      exact J_ireturn dL_fewestBehind_16 rfl rfl rfl rfl rfl
    · replace h := ifn c6 h
      by_cases c7 : x5 = 2
      · subst c7
        replace h := ifp rfl h
        refine J_callV (g := mi_X3_fewestBehind) (ci := 3) (pc := 5) [.int a1, .int a2] [.int (0 : Int32), .ref 62] mv_X3_fewestBehind w_997 (show Con E _ _ _ (.inr "java/lang/IllegalArgumentException") _ from (k_X3_fewestBehind a1 a2 _ hc3)) rfl (by decide) rfl rfl rfl ⟨⟨Nat.le_of_ble_eq_true rfl, Nat.le_of_ble_eq_true rfl⟩, Nat.le_of_ble_eq_true rfl, Nat.le_of_ble_eq_true rfl⟩ (Nat.le_of_ble_eq_true rfl) dL_fewestBehind_5 (Jk_catch [(0, 10, 13, 13)] [(0, 10, 21, 17)] (0, 10, 17, 15) rfl (List.forall_mem_cons.mpr ⟨⟨by decide, _, w_618, by decide⟩, (fun z hz => by cases hz)⟩) rfl (by decide) w_619 w_702 fun q9 => ?_)
        refine J_astore (pc := 17) dL_fewestBehind_17 (Nat.le_of_ble_eq_true rfl) [1, 2, 3, 4, 0] rfl ?_
        refine J_iconst (v := (2 : Int32)) (pc := 19) dL_fewestBehind_19 (by decide) ?_
        cases h
        refine J_wide (k' := 1) (n' := 6) (Nat.le_of_ble_eq_true rfl) (Nat.le_of_ble_eq_true rfl) ?_
        exact J_ireturn dL_fewestBehind_20 rfl rfl rfl rfl rfl
      · replace h := ifn c7 h
        by_cases c8 : x5 = 3
        · subst c8
          replace h := ifp rfl h
          refine J_callV (g := mi_X3_fewestBehind) (ci := 3) (pc := 5) [.int a1, .int a2] [.int (0 : Int32), .ref 62] mv_X3_fewestBehind w_997 (show Con E _ _ _ (.inr "java/lang/IllegalStateException") _ from (k_X3_fewestBehind a1 a2 _ hc3)) rfl (by decide) rfl rfl rfl ⟨⟨Nat.le_of_ble_eq_true rfl, Nat.le_of_ble_eq_true rfl⟩, Nat.le_of_ble_eq_true rfl, Nat.le_of_ble_eq_true rfl⟩ (Nat.le_of_ble_eq_true rfl) dL_fewestBehind_5 (Jk_catch [(0, 10, 13, 13), (0, 10, 17, 15)] [] (0, 10, 21, 17) rfl (List.forall_mem_cons.mpr ⟨⟨by decide, _, w_618, by decide⟩, (List.forall_mem_cons.mpr ⟨⟨by decide, _, w_619, by decide⟩, (fun z hz => by cases hz)⟩)⟩) rfl (by decide) w_620 w_718 fun q9 => ?_)
          refine J_astore (pc := 21) dL_fewestBehind_21 (Nat.le_of_ble_eq_true rfl) [1, 2, 3, 4, 0] rfl ?_
          refine J_iconst (v := (3 : Int32)) (pc := 23) dL_fewestBehind_23 (by decide) ?_
          cases h
          refine J_wide (k' := 1) (n' := 6) (Nat.le_of_ble_eq_true rfl) (Nat.le_of_ble_eq_true rfl) ?_
          exact J_ireturn dL_fewestBehind_24 rfl rfl rfl rfl rfl
        · replace h := ifn c8 h
          cases h
set_option maxHeartbeats 4000000 in
set_option maxRecDepth 100000 in
theorem k_L_fewestWithoutLast_0_62 {E : En} (M : Wd) {r : Int32} {M' : Wd} (h : F_L_fewestWithoutLast_0_62 M = some (r, M')) : Con E mi_L_fewestWithoutLast [.ref 0, .ref 62] M (.inl (some (.int r))) M' := by
  unfold F_L_fewestWithoutLast_0_62 at h
  refine Con.ofH (by decide) rfl (Nat.le_of_ble_eq_true rfl) (fun κ => ?_)
  show J κ E mi_L_fewestWithoutLast _ 0 0 [(0, .ref 0), (1, .ref 62)] M 0 []
  refine J_aload_n (pc := 0) dL_fewestWithoutLast_0 rfl 1 rfl ?_
  refine J_iconst (v := (0 : Int32)) (pc := 1) dL_fewestWithoutLast_1 (by decide) ?_
  refine J_aload_n (pc := 2) dL_fewestWithoutLast_2 rfl 0 rfl ?_
  rcases obindX_e h with ⟨v1, M2, hc3, h⟩ | ⟨x5, M2, hc3, h⟩
  · refine J_callV (g := mi_X3_fewestWithoutLast) (ci := 3) (pc := 3) [] [.int (0 : Int32), .ref 62] mv_X3_fewestWithoutLast w_1004 (k_X3_fewestWithoutLast _ hc3) rfl (by decide) rfl rfl rfl ⟨⟨Nat.le_of_ble_eq_true rfl, Nat.le_of_ble_eq_true rfl⟩, Nat.le_of_ble_eq_true rfl, Nat.le_of_ble_eq_true rfl⟩ (Nat.le_of_ble_eq_true rfl) dL_fewestWithoutLast_3 (Jk_vk 1 6 rfl rfl fun hok4 => ?_)
    refine J_i2l (pc := 6) dL_fewestWithoutLast_6 ?_
    refine J_last (pc := 7) (vpc rfl) dL_fewestWithoutLast_7 ?_
    refine J_M (upL M2 62 0 v1.toInt64) rfl ?_
    refine J_goto (pc := 8) (tgt := 14) dL_fewestWithoutLast_8 (by decide) ?_
    refine J_iconst (v := (0 : Int32)) (pc := 14) dL_fewestWithoutLast_14 (by decide) ?_
    cases h
    refine J_wide (k' := 1) (n' := 6) (Nat.le_of_ble_eq_true rfl) (Nat.le_of_ble_eq_true rfl) ?_
    exact J_ireturn dL_fewestWithoutLast_15 rfl rfl rfl rfl rfl
  · by_cases c6 : x5 = 3
    · subst c6
      replace h := ifp rfl h
      refine J_callV (g := mi_X3_fewestWithoutLast) (ci := 3) (pc := 3) [] [.int (0 : Int32), .ref 62] mv_X3_fewestWithoutLast w_1004 (show Con E _ _ _ (.inr "java/lang/IllegalStateException") _ from (k_X3_fewestWithoutLast _ hc3)) rfl (by decide) rfl rfl rfl ⟨⟨Nat.le_of_ble_eq_true rfl, Nat.le_of_ble_eq_true rfl⟩, Nat.le_of_ble_eq_true rfl, Nat.le_of_ble_eq_true rfl⟩ (Nat.le_of_ble_eq_true rfl) dL_fewestWithoutLast_3 (Jk_catch [] [] (0, 8, 11, 17) rfl (fun z hz => by cases hz) rfl (by decide) w_620 w_718 fun q9 => ?_)
      refine J_astore_n (pc := 11) dL_fewestWithoutLast_11 rfl (Nat.le_of_ble_eq_true rfl) [1, 2, 0] rfl ?_
      refine J_iconst (v := (1 : Int32)) (pc := 12) dL_fewestWithoutLast_12 (by decide) ?_
      cases h
      refine J_wide (k' := 1) (n' := 6) (Nat.le_of_ble_eq_true rfl) (Nat.le_of_ble_eq_true rfl) ?_
      exact J_ireturn dL_fewestWithoutLast_13 rfl rfl rfl rfl rfl
    · replace h := ifn c6 h
      cases h
set_option maxHeartbeats 4000000 in
set_option maxRecDepth 100000 in
theorem k_L_fewestWithWall_0_62 {E : En} (a1 : Int32) (M : Wd) {r : Int32} {M' : Wd} (h : F_L_fewestWithWall_0_62 a1 M = some (r, M')) : Con E mi_L_fewestWithWall [.ref 0, .int a1, .ref 62] M (.inl (some (.int r))) M' := by
  unfold F_L_fewestWithWall_0_62 at h
  refine Con.ofH (by decide) rfl (Nat.le_of_ble_eq_true rfl) (fun κ => ?_)
  show J κ E mi_L_fewestWithWall _ 0 0 [(0, .ref 0), (1, .int a1), (2, .ref 62)] M 0 []
  refine J_aload_n (pc := 0) dL_fewestWithWall_0 rfl 2 rfl ?_
  refine J_iconst (v := (0 : Int32)) (pc := 1) dL_fewestWithWall_1 (by decide) ?_
  refine J_aload_n (pc := 2) dL_fewestWithWall_2 rfl 0 rfl ?_
  refine J_iload_n (pc := 3) dL_fewestWithWall_3 rfl 1 rfl ?_
  rcases obindX_e h with ⟨v1, M2, hc3, h⟩ | ⟨x5, M2, hc3, h⟩
  · refine J_callV (g := mi_X3_fewestWithWall) (ci := 3) (pc := 4) [.int a1] [.int (0 : Int32), .ref 62] mv_X3_fewestWithWall w_1012 (k_X3_fewestWithWall a1 _ hc3) rfl (by decide) rfl rfl rfl ⟨⟨Nat.le_of_ble_eq_true rfl, Nat.le_of_ble_eq_true rfl⟩, Nat.le_of_ble_eq_true rfl, Nat.le_of_ble_eq_true rfl⟩ (Nat.le_of_ble_eq_true rfl) dL_fewestWithWall_4 (Jk_vk 1 6 rfl rfl fun hok4 => ?_)
    refine J_i2l (pc := 7) dL_fewestWithWall_7 ?_
    refine J_last (pc := 8) (vpc rfl) dL_fewestWithWall_8 ?_
    refine J_M (upL M2 62 0 v1.toInt64) rfl ?_
    refine J_goto (pc := 9) (tgt := 18) dL_fewestWithWall_9 (by decide) ?_
    refine J_iconst (v := (0 : Int32)) (pc := 18) dL_fewestWithWall_18 (by decide) ?_
    cases h
    refine J_wide (k' := 1) (n' := 6) (Nat.le_of_ble_eq_true rfl) (Nat.le_of_ble_eq_true rfl) ?_
    exact J_ireturn dL_fewestWithWall_19 rfl rfl rfl rfl rfl
  · by_cases c6 : x5 = 1
    · subst c6
      replace h := ifp rfl h
      refine J_callV (g := mi_X3_fewestWithWall) (ci := 3) (pc := 4) [.int a1] [.int (0 : Int32), .ref 62] mv_X3_fewestWithWall w_1012 (show Con E _ _ _ (.inr "java/lang/IndexOutOfBoundsException") _ from (k_X3_fewestWithWall a1 _ hc3)) rfl (by decide) rfl rfl rfl ⟨⟨Nat.le_of_ble_eq_true rfl, Nat.le_of_ble_eq_true rfl⟩, Nat.le_of_ble_eq_true rfl, Nat.le_of_ble_eq_true rfl⟩ (Nat.le_of_ble_eq_true rfl) dL_fewestWithWall_4 (Jk_catch [] [(0, 9, 15, 17)] (0, 9, 12, 13) rfl (fun z hz => by cases hz) rfl (by decide) w_618 w_634 fun q9 => ?_)
      refine J_astore_n (pc := 12) dL_fewestWithWall_12 rfl (Nat.le_of_ble_eq_true rfl) [1, 2, 3, 0] rfl ?_
      refine J_iconst (v := (1 : Int32)) (pc := 13) dL_fewestWithWall_13 (by decide) ?_
      cases h
      refine J_wide (k' := 1) (n' := 6) (Nat.le_of_ble_eq_true rfl) (Nat.le_of_ble_eq_true rfl) ?_
      exact J_ireturn dL_fewestWithWall_14 rfl rfl rfl rfl rfl
    · replace h := ifn c6 h
      by_cases c7 : x5 = 3
      · subst c7
        replace h := ifp rfl h
        refine J_callV (g := mi_X3_fewestWithWall) (ci := 3) (pc := 4) [.int a1] [.int (0 : Int32), .ref 62] mv_X3_fewestWithWall w_1012 (show Con E _ _ _ (.inr "java/lang/IllegalStateException") _ from (k_X3_fewestWithWall a1 _ hc3)) rfl (by decide) rfl rfl rfl ⟨⟨Nat.le_of_ble_eq_true rfl, Nat.le_of_ble_eq_true rfl⟩, Nat.le_of_ble_eq_true rfl, Nat.le_of_ble_eq_true rfl⟩ (Nat.le_of_ble_eq_true rfl) dL_fewestWithWall_4 (Jk_catch [(0, 9, 12, 13)] [] (0, 9, 15, 17) rfl (List.forall_mem_cons.mpr ⟨⟨by decide, _, w_618, by decide⟩, (fun z hz => by cases hz)⟩) rfl (by decide) w_620 w_718 fun q9 => ?_)
        refine J_astore_n (pc := 15) dL_fewestWithWall_15 rfl (Nat.le_of_ble_eq_true rfl) [1, 2, 3, 0] rfl ?_
        refine J_iconst (v := (2 : Int32)) (pc := 16) dL_fewestWithWall_16 (by decide) ?_
        cases h
        refine J_wide (k' := 1) (n' := 6) (Nat.le_of_ble_eq_true rfl) (Nat.le_of_ble_eq_true rfl) ?_
        exact J_ireturn dL_fewestWithWall_17 rfl rfl rfl rfl rfl
      · replace h := ifn c7 h
        cases h

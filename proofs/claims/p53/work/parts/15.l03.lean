/-! ===== walks of the law's helpers, 2 ===== -/
set_option maxHeartbeats 4000000 in
set_option maxRecDepth 100000 in
theorem k_L_tryBehind {E : En} (a1 : Int32) (a2 : Int32) (M : Wd) {r : Int32} {M' : Wd} (h : F_L_tryBehind a1 a2 M = some (r, M')) : Con E mi_L_tryBehind [.ref 0, .int a1, .int a2] M (.inl (some (.int r))) M' := by
  unfold F_L_tryBehind at h
  refine Con.ofH (by decide) rfl (Nat.le_of_ble_eq_true rfl) (fun κ => ?_)
  show J κ E mi_L_tryBehind _ 0 0 [(0, .ref 0), (1, .int a1), (2, .int a2)] M 0 []
  refine J_aload_n (pc := 0) dL_tryBehind_0 rfl 0 rfl ?_
  refine J_iload_n (pc := 1) dL_tryBehind_1 rfl 1 rfl ?_
  refine J_iload_n (pc := 2) dL_tryBehind_2 rfl 2 rfl ?_
  rcases obindX_e h with ⟨v1, M2, hc3, h⟩ | ⟨x5, M2, hc3, h⟩
  · refine J_callV (g := mi_X3_fewestBehind) (ci := 3) (pc := 3) [.int a1, .int a2] [] mv_X3_fewestBehind w_844 (k_X3_fewestBehind a1 a2 _ hc3) rfl (by decide) rfl rfl rfl ⟨⟨Nat.le_of_ble_eq_true rfl, Nat.le_of_ble_eq_true rfl⟩, Nat.le_of_ble_eq_true rfl, Nat.le_of_ble_eq_true rfl⟩ (Nat.le_of_ble_eq_true rfl) dL_tryBehind_3 (Jk_vk 1 6 rfl rfl fun hok4 => ?_)
    cases h
    refine J_wide (k' := 1) (n' := 6) (Nat.le_of_ble_eq_true rfl) (Nat.le_of_ble_eq_true rfl) ?_
    exact J_ireturn dL_tryBehind_6 rfl rfl rfl rfl rfl
  · by_cases c6 : x5 = 1
    · subst c6
      replace h := ifp rfl h
      refine J_callV (g := mi_X3_fewestBehind) (ci := 3) (pc := 3) [.int a1, .int a2] [] mv_X3_fewestBehind w_844 (show Con E _ _ _ (.inr "java/lang/IndexOutOfBoundsException") _ from (k_X3_fewestBehind a1 a2 _ hc3)) rfl (by decide) rfl rfl rfl ⟨⟨Nat.le_of_ble_eq_true rfl, Nat.le_of_ble_eq_true rfl⟩, Nat.le_of_ble_eq_true rfl, Nat.le_of_ble_eq_true rfl⟩ (Nat.le_of_ble_eq_true rfl) dL_tryBehind_3 (Jk_catch [] [(0, 6, 11, 30), (0, 6, 15, 16)] (0, 6, 7, 13) rfl (fun z hz => by cases hz) rfl (by decide) w_437 w_453 fun q9 => ?_)
      refine J_astore_n (pc := 7) dL_tryBehind_7 rfl (Nat.le_of_ble_eq_true rfl) [1, 2, 3, 0] rfl ?_
      refine J_ldc (pc := 8) w_573 dL_tryBehind_8 ?_
      cases h
      refine J_wide (k' := 1) (n' := 6) (Nat.le_of_ble_eq_true rfl) (Nat.le_of_ble_eq_true rfl) ?_
      exact J_ireturn dL_tryBehind_10 rfl rfl rfl rfl rfl
    · replace h := ifn c6 h
      by_cases c7 : x5 = 2
      · subst c7
        replace h := ifp rfl h
        refine J_callV (g := mi_X3_fewestBehind) (ci := 3) (pc := 3) [.int a1, .int a2] [] mv_X3_fewestBehind w_844 (show Con E _ _ _ (.inr "java/lang/IllegalArgumentException") _ from (k_X3_fewestBehind a1 a2 _ hc3)) rfl (by decide) rfl rfl rfl ⟨⟨Nat.le_of_ble_eq_true rfl, Nat.le_of_ble_eq_true rfl⟩, Nat.le_of_ble_eq_true rfl, Nat.le_of_ble_eq_true rfl⟩ (Nat.le_of_ble_eq_true rfl) dL_tryBehind_3 (Jk_catch [(0, 6, 7, 13)] [(0, 6, 15, 16)] (0, 6, 11, 30) rfl (List.forall_mem_cons.mpr ⟨⟨by decide, _, w_437, by decide⟩, (fun z hz => by cases hz)⟩) rfl (by decide) w_438 w_521 fun q9 => ?_)
        refine J_astore_n (pc := 11) dL_tryBehind_11 rfl (Nat.le_of_ble_eq_true rfl) [1, 2, 3, 0] rfl ?_
        refine J_ldc (pc := 12) w_574 dL_tryBehind_12 ?_
        cases h
        refine J_wide (k' := 1) (n' := 6) (Nat.le_of_ble_eq_true rfl) (Nat.le_of_ble_eq_true rfl) ?_
        exact J_ireturn dL_tryBehind_14 rfl rfl rfl rfl rfl
      · replace h := ifn c7 h
        by_cases c8 : x5 = 3
        · subst c8
          replace h := ifp rfl h
          refine J_callV (g := mi_X3_fewestBehind) (ci := 3) (pc := 3) [.int a1, .int a2] [] mv_X3_fewestBehind w_844 (show Con E _ _ _ (.inr "java/lang/IllegalStateException") _ from (k_X3_fewestBehind a1 a2 _ hc3)) rfl (by decide) rfl rfl rfl ⟨⟨Nat.le_of_ble_eq_true rfl, Nat.le_of_ble_eq_true rfl⟩, Nat.le_of_ble_eq_true rfl, Nat.le_of_ble_eq_true rfl⟩ (Nat.le_of_ble_eq_true rfl) dL_tryBehind_3 (Jk_catch [(0, 6, 7, 13), (0, 6, 11, 30)] [] (0, 6, 15, 16) rfl (List.forall_mem_cons.mpr ⟨⟨by decide, _, w_437, by decide⟩, (List.forall_mem_cons.mpr ⟨⟨by decide, _, w_438, by decide⟩, (fun z hz => by cases hz)⟩)⟩) rfl (by decide) w_439 w_537 fun q9 => ?_)
          refine J_astore_n (pc := 15) dL_tryBehind_15 rfl (Nat.le_of_ble_eq_true rfl) [1, 2, 3, 0] rfl ?_
          refine J_ldc (pc := 16) w_575 dL_tryBehind_16 ?_
          cases h
          refine J_wide (k' := 1) (n' := 6) (Nat.le_of_ble_eq_true rfl) (Nat.le_of_ble_eq_true rfl) ?_
          exact J_ireturn dL_tryBehind_18 rfl rfl rfl rfl rfl
        · replace h := ifn c8 h
          cases h
set_option maxHeartbeats 4000000 in
set_option maxRecDepth 100000 in
theorem k_L_tryWithout {E : En} (M : Wd) {r : Int32} {M' : Wd} (h : F_L_tryWithout M = some (r, M')) : Con E mi_L_tryWithout [.ref 0] M (.inl (some (.int r))) M' := by
  unfold F_L_tryWithout at h
  refine Con.ofH (by decide) rfl (Nat.le_of_ble_eq_true rfl) (fun κ => ?_)
  show J κ E mi_L_tryWithout _ 0 0 [(0, .ref 0)] M 0 []
  refine J_aload_n (pc := 0) dL_tryWithout_0 rfl 0 rfl ?_
  rcases obindX_e h with ⟨v1, M2, hc3, h⟩ | ⟨x5, M2, hc3, h⟩
  · refine J_callV (g := mi_X3_fewestWithoutLast) (ci := 3) (pc := 1) [] [] mv_X3_fewestWithoutLast w_851 (k_X3_fewestWithoutLast _ hc3) rfl (by decide) rfl rfl rfl ⟨⟨Nat.le_of_ble_eq_true rfl, Nat.le_of_ble_eq_true rfl⟩, Nat.le_of_ble_eq_true rfl, Nat.le_of_ble_eq_true rfl⟩ (Nat.le_of_ble_eq_true rfl) dL_tryWithout_1 (Jk_vk 1 6 rfl rfl fun hok4 => ?_)
    cases h
    refine J_wide (k' := 1) (n' := 6) (Nat.le_of_ble_eq_true rfl) (Nat.le_of_ble_eq_true rfl) ?_
    exact J_ireturn dL_tryWithout_4 rfl rfl rfl rfl rfl
  · by_cases c6 : x5 = 3
    · subst c6
      replace h := ifp rfl h
      refine J_callV (g := mi_X3_fewestWithoutLast) (ci := 3) (pc := 1) [] [] mv_X3_fewestWithoutLast w_851 (show Con E _ _ _ (.inr "java/lang/IllegalStateException") _ from (k_X3_fewestWithoutLast _ hc3)) rfl (by decide) rfl rfl rfl ⟨⟨Nat.le_of_ble_eq_true rfl, Nat.le_of_ble_eq_true rfl⟩, Nat.le_of_ble_eq_true rfl, Nat.le_of_ble_eq_true rfl⟩ (Nat.le_of_ble_eq_true rfl) dL_tryWithout_1 (Jk_catch [] [] (0, 4, 5, 16) rfl (fun z hz => by cases hz) rfl (by decide) w_439 w_537 fun q9 => ?_)
      refine J_astore_n (pc := 5) dL_tryWithout_5 rfl (Nat.le_of_ble_eq_true rfl) [1, 0] rfl ?_
      refine J_ldc (pc := 6) w_575 dL_tryWithout_6 ?_
      cases h
      refine J_wide (k' := 1) (n' := 6) (Nat.le_of_ble_eq_true rfl) (Nat.le_of_ble_eq_true rfl) ?_
      exact J_ireturn dL_tryWithout_8 rfl rfl rfl rfl rfl
    · replace h := ifn c6 h
      cases h
set_option maxHeartbeats 4000000 in
set_option maxRecDepth 100000 in
theorem k_L_tryWithWall {E : En} (a1 : Int32) (M : Wd) {r : Int32} {M' : Wd} (h : F_L_tryWithWall a1 M = some (r, M')) : Con E mi_L_tryWithWall [.ref 0, .int a1] M (.inl (some (.int r))) M' := by
  unfold F_L_tryWithWall at h
  refine Con.ofH (by decide) rfl (Nat.le_of_ble_eq_true rfl) (fun κ => ?_)
  show J κ E mi_L_tryWithWall _ 0 0 [(0, .ref 0), (1, .int a1)] M 0 []
  refine J_aload_n (pc := 0) dL_tryWithWall_0 rfl 0 rfl ?_
  refine J_iload_n (pc := 1) dL_tryWithWall_1 rfl 1 rfl ?_
  rcases obindX_e h with ⟨v1, M2, hc3, h⟩ | ⟨x5, M2, hc3, h⟩
  · refine J_callV (g := mi_X3_fewestWithWall) (ci := 3) (pc := 2) [.int a1] [] mv_X3_fewestWithWall w_859 (k_X3_fewestWithWall a1 _ hc3) rfl (by decide) rfl rfl rfl ⟨⟨Nat.le_of_ble_eq_true rfl, Nat.le_of_ble_eq_true rfl⟩, Nat.le_of_ble_eq_true rfl, Nat.le_of_ble_eq_true rfl⟩ (Nat.le_of_ble_eq_true rfl) dL_tryWithWall_2 (Jk_vk 1 6 rfl rfl fun hok4 => ?_)
    cases h
    refine J_wide (k' := 1) (n' := 6) (Nat.le_of_ble_eq_true rfl) (Nat.le_of_ble_eq_true rfl) ?_
    exact J_ireturn dL_tryWithWall_5 rfl rfl rfl rfl rfl
  · by_cases c6 : x5 = 1
    · subst c6
      replace h := ifp rfl h
      refine J_callV (g := mi_X3_fewestWithWall) (ci := 3) (pc := 2) [.int a1] [] mv_X3_fewestWithWall w_859 (show Con E _ _ _ (.inr "java/lang/IndexOutOfBoundsException") _ from (k_X3_fewestWithWall a1 _ hc3)) rfl (by decide) rfl rfl rfl ⟨⟨Nat.le_of_ble_eq_true rfl, Nat.le_of_ble_eq_true rfl⟩, Nat.le_of_ble_eq_true rfl, Nat.le_of_ble_eq_true rfl⟩ (Nat.le_of_ble_eq_true rfl) dL_tryWithWall_2 (Jk_catch [] [(0, 5, 10, 16)] (0, 5, 6, 13) rfl (fun z hz => by cases hz) rfl (by decide) w_437 w_453 fun q9 => ?_)
      refine J_astore_n (pc := 6) dL_tryWithWall_6 rfl (Nat.le_of_ble_eq_true rfl) [1, 2, 0] rfl ?_
      refine J_ldc (pc := 7) w_573 dL_tryWithWall_7 ?_
      cases h
      refine J_wide (k' := 1) (n' := 6) (Nat.le_of_ble_eq_true rfl) (Nat.le_of_ble_eq_true rfl) ?_
      exact J_ireturn dL_tryWithWall_9 rfl rfl rfl rfl rfl
    · replace h := ifn c6 h
      by_cases c7 : x5 = 3
      · subst c7
        replace h := ifp rfl h
        refine J_callV (g := mi_X3_fewestWithWall) (ci := 3) (pc := 2) [.int a1] [] mv_X3_fewestWithWall w_859 (show Con E _ _ _ (.inr "java/lang/IllegalStateException") _ from (k_X3_fewestWithWall a1 _ hc3)) rfl (by decide) rfl rfl rfl ⟨⟨Nat.le_of_ble_eq_true rfl, Nat.le_of_ble_eq_true rfl⟩, Nat.le_of_ble_eq_true rfl, Nat.le_of_ble_eq_true rfl⟩ (Nat.le_of_ble_eq_true rfl) dL_tryWithWall_2 (Jk_catch [(0, 5, 6, 13)] [] (0, 5, 10, 16) rfl (List.forall_mem_cons.mpr ⟨⟨by decide, _, w_437, by decide⟩, (fun z hz => by cases hz)⟩) rfl (by decide) w_439 w_537 fun q9 => ?_)
        refine J_astore_n (pc := 10) dL_tryWithWall_10 rfl (Nat.le_of_ble_eq_true rfl) [1, 2, 0] rfl ?_
        refine J_ldc (pc := 11) w_575 dL_tryWithWall_11 ?_
        cases h
        refine J_wide (k' := 1) (n' := 6) (Nat.le_of_ble_eq_true rfl) (Nat.le_of_ble_eq_true rfl) ?_
        exact J_ireturn dL_tryWithWall_13 rfl rfl rfl rfl rfl
      · replace h := ifn c7 h
        cases h
set_option maxHeartbeats 4000000 in
set_option maxRecDepth 100000 in
theorem k_L_call {E : En} (a1 : Int32) (a2 : Int32) (a3 : Int32) (a4 : Int32) (M : Wd) {r : Int32} {M' : Wd} (h : F_L_call a1 a2 a3 a4 M = some (r, M')) : Con E mi_L_call [.ref 0, .int a1, .int a2, .int a3, .int a4] M (.inl (some (.int r))) M' := by
  unfold F_L_call at h
  refine Con.of (by decide) rfl (Nat.le_of_ble_eq_true rfl) (fun κ => ?_)
  show J κ E mi_L_call _ 0 0 [(0, .ref 0), (1, .int a1), (2, .int a2), (3, .int a3), (4, .int a4)] M 0 []
  refine J_iload_n (pc := 0) dL_call_0 rfl 1 rfl ?_
  by_cases c89 : a1 = 0
  · replace h := ifp c89 h
    refine J_topi c89.symm ?_
    refine J_tableIn (pc := 1) (tgt := 100) dL_call_1 (by decide) (by decide) rfl (by decide) ?_
    refine J_aload_n (pc := 100) dL_call_100 rfl 0 rfl ?_
    refine J_iload_n (pc := 101) dL_call_101 rfl 2 rfl ?_
    refine J_iload_n (pc := 102) dL_call_102 rfl 3 rfl ?_
    refine J_iload (pc := 103) dL_call_103 4 rfl ?_
    obtain ⟨v1, M2, hc3, h⟩ := obind2_e h
    refine J_callSX (g := mi_L_tryAdd) (pc := 105) [.ref 0, .int a2, .int a3, .int a4] [] ms_L_tryAdd w_434 (k_L_tryAdd  a2 a3 a4 _ hc3) rfl rfl ⟨⟨Nat.le_of_ble_eq_true rfl, Nat.le_of_ble_eq_true rfl⟩, Nat.le_of_ble_eq_true rfl, Nat.le_of_ble_eq_true rfl⟩ (Nat.le_of_ble_eq_true rfl) dL_call_105 (Jk_vk 1 6 rfl rfl fun hok4 => ?_)
    cases h
    refine J_wide (k' := 2) (n' := 12) (Nat.le_of_ble_eq_true rfl) (Nat.le_of_ble_eq_true rfl) ?_
    exact J_ireturn dL_call_108 rfl rfl rfl rfl rfl
  · replace h := ifn c89 h
    by_cases c90 : a1 = 1
    · replace h := ifp c90 h
      refine J_topi c90.symm ?_
      refine J_tableIn (pc := 1) (tgt := 109) dL_call_1 (by decide) (by decide) rfl (by decide) ?_
      refine J_aload_n (pc := 109) dL_call_109 rfl 0 rfl ?_
      obtain ⟨v5, M6, hc7, h⟩ := obind2_e h
      refine J_callSX (g := mi_L_tryDrop) (pc := 110) [.ref 0] [] ms_L_tryDrop w_576 (k_L_tryDrop  _ hc7) rfl rfl ⟨⟨Nat.le_of_ble_eq_true rfl, Nat.le_of_ble_eq_true rfl⟩, Nat.le_of_ble_eq_true rfl, Nat.le_of_ble_eq_true rfl⟩ (Nat.le_of_ble_eq_true rfl) dL_call_110 (Jk_vk 1 6 rfl rfl fun hok8 => ?_)
      cases h
      refine J_wide (k' := 2) (n' := 12) (Nat.le_of_ble_eq_true rfl) (Nat.le_of_ble_eq_true rfl) ?_
      exact J_ireturn dL_call_113 rfl rfl rfl rfl rfl
    · replace h := ifn c90 h
      by_cases c91 : a1 = 2
      · replace h := ifp c91 h
        refine J_topi c91.symm ?_
        refine J_tableIn (pc := 1) (tgt := 114) dL_call_1 (by decide) (by decide) rfl (by decide) ?_
        refine J_aload_n (pc := 114) dL_call_114 rfl 0 rfl ?_
        refine J_iload_n (pc := 115) dL_call_115 rfl 2 rfl ?_
        refine J_iload_n (pc := 116) dL_call_116 rfl 3 rfl ?_
        obtain ⟨v9, M10, hc11, h⟩ := obind2_e h
        refine J_callSX (g := mi_L_trySlide) (pc := 117) [.ref 0, .int a2, .int a3] [] ms_L_trySlide w_588 (k_L_trySlide  a2 a3 _ hc11) rfl rfl ⟨⟨Nat.le_of_ble_eq_true rfl, Nat.le_of_ble_eq_true rfl⟩, Nat.le_of_ble_eq_true rfl, Nat.le_of_ble_eq_true rfl⟩ (Nat.le_of_ble_eq_true rfl) dL_call_117 (Jk_vk 2 12 rfl rfl fun hok12 => ?_)
        cases h
        refine J_wide (k' := 2) (n' := 12) (Nat.le_of_ble_eq_true rfl) (Nat.le_of_ble_eq_true rfl) ?_
        exact J_ireturn dL_call_120 rfl rfl rfl rfl rfl
      · replace h := ifn c91 h
        by_cases c92 : a1 = 3
        · replace h := ifp c92 h
          refine J_topi c92.symm ?_
          refine J_tableIn (pc := 1) (tgt := 121) dL_call_1 (by decide) (by decide) rfl (by decide) ?_
          refine J_aload_n (pc := 121) dL_call_121 rfl 0 rfl ?_
          obtain ⟨v13, M14, hc15, h⟩ := obind2_e h
          refine J_callSX (g := mi_L_tryTake) (pc := 122) [.ref 0] [] ms_L_tryTake w_605 (k_L_tryTake  _ hc15) rfl rfl ⟨⟨Nat.le_of_ble_eq_true rfl, Nat.le_of_ble_eq_true rfl⟩, Nat.le_of_ble_eq_true rfl, Nat.le_of_ble_eq_true rfl⟩ (Nat.le_of_ble_eq_true rfl) dL_call_122 (Jk_vk 1 6 rfl rfl fun hok16 => ?_)
          cases h
          refine J_wide (k' := 2) (n' := 12) (Nat.le_of_ble_eq_true rfl) (Nat.le_of_ble_eq_true rfl) ?_
          exact J_ireturn dL_call_125 rfl rfl rfl rfl rfl
        · replace h := ifn c92 h
          by_cases c93 : a1 = 4
          · replace h := ifp c93 h
            refine J_topi c93.symm ?_
            refine J_tableIn (pc := 1) (tgt := 126) dL_call_1 (by decide) (by decide) rfl (by decide) ?_
            refine J_aload_n (pc := 126) dL_call_126 rfl 0 rfl ?_
            obtain ⟨v17, M18, hc19, h⟩ := obind2_e h
            refine J_callSX (g := mi_L_tryDrive) (pc := 127) [.ref 0] [] ms_L_tryDrive w_621 (k_L_tryDrive  _ hc19) rfl rfl ⟨⟨Nat.le_of_ble_eq_true rfl, Nat.le_of_ble_eq_true rfl⟩, Nat.le_of_ble_eq_true rfl, Nat.le_of_ble_eq_true rfl⟩ (Nat.le_of_ble_eq_true rfl) dL_call_127 (Jk_vk 1 6 rfl rfl fun hok20 => ?_)
            cases h
            refine J_wide (k' := 2) (n' := 12) (Nat.le_of_ble_eq_true rfl) (Nat.le_of_ble_eq_true rfl) ?_
            exact J_ireturn dL_call_130 rfl rfl rfl rfl rfl
          · replace h := ifn c93 h
            by_cases c94 : a1 = 5
            · replace h := ifp c94 h
              refine J_topi c94.symm ?_
              refine J_tableIn (pc := 1) (tgt := 131) dL_call_1 (by decide) (by decide) rfl (by decide) ?_
              refine J_aload_n (pc := 131) dL_call_131 rfl 0 rfl ?_
              refine J_iload_n (pc := 132) dL_call_132 rfl 2 rfl ?_
              obtain ⟨v21, M22, hc23, h⟩ := obind2_e h
              refine J_callSX (g := mi_L_tryAppend) (pc := 133) [.ref 0, .int a2] [] ms_L_tryAppend w_647 (k_L_tryAppend  a2 _ hc23) rfl rfl ⟨⟨Nat.le_of_ble_eq_true rfl, Nat.le_of_ble_eq_true rfl⟩, Nat.le_of_ble_eq_true rfl, Nat.le_of_ble_eq_true rfl⟩ (Nat.le_of_ble_eq_true rfl) dL_call_133 (Jk_vk 1 6 rfl rfl fun hok24 => ?_)
              cases h
              refine J_wide (k' := 2) (n' := 12) (Nat.le_of_ble_eq_true rfl) (Nat.le_of_ble_eq_true rfl) ?_
              exact J_ireturn dL_call_136 rfl rfl rfl rfl rfl
            · replace h := ifn c94 h
              by_cases c95 : a1 = 6
              · replace h := ifp c95 h
                refine J_topi c95.symm ?_
                refine J_tableIn (pc := 1) (tgt := 137) dL_call_1 (by decide) (by decide) rfl (by decide) ?_
                refine J_aload_n (pc := 137) dL_call_137 rfl 0 rfl ?_
                obtain ⟨v25, M26, hc27, h⟩ := obind2_e h
                refine J_callSX (g := mi_L_tryWork) (pc := 138) [.ref 0] [] ms_L_tryWork w_660 (k_L_tryWork  _ hc27) rfl rfl ⟨⟨Nat.le_of_ble_eq_true rfl, Nat.le_of_ble_eq_true rfl⟩, Nat.le_of_ble_eq_true rfl, Nat.le_of_ble_eq_true rfl⟩ (Nat.le_of_ble_eq_true rfl) dL_call_138 (Jk_vk 1 6 rfl rfl fun hok28 => ?_)
                cases h
                refine J_wide (k' := 2) (n' := 12) (Nat.le_of_ble_eq_true rfl) (Nat.le_of_ble_eq_true rfl) ?_
                exact J_ireturn dL_call_141 rfl rfl rfl rfl rfl
              · replace h := ifn c95 h
                by_cases c96 : a1 = 7
                · replace h := ifp c96 h
                  refine J_topi c96.symm ?_
                  refine J_tableIn (pc := 1) (tgt := 142) dL_call_1 (by decide) (by decide) rfl (by decide) ?_
                  refine J_aload_n (pc := 142) dL_call_142 rfl 0 rfl ?_
                  obtain ⟨v29, M30, hc31, h⟩ := obind2_e h
                  refine J_callSX (g := mi_L_tryStop) (pc := 143) [.ref 0] [] ms_L_tryStop w_743 (k_L_tryStop  _ hc31) rfl rfl ⟨⟨Nat.le_of_ble_eq_true rfl, Nat.le_of_ble_eq_true rfl⟩, Nat.le_of_ble_eq_true rfl, Nat.le_of_ble_eq_true rfl⟩ (Nat.le_of_ble_eq_true rfl) dL_call_143 (Jk_vk 1 6 rfl rfl fun hok32 => ?_)
                  cases h
                  refine J_wide (k' := 2) (n' := 12) (Nat.le_of_ble_eq_true rfl) (Nat.le_of_ble_eq_true rfl) ?_
                  exact J_ireturn dL_call_146 rfl rfl rfl rfl rfl
                · replace h := ifn c96 h
                  by_cases c97 : a1 = 8
                  · replace h := ifp c97 h
                    refine J_topi c97.symm ?_
                    refine J_tableIn (pc := 1) (tgt := 147) dL_call_1 (by decide) (by decide) rfl (by decide) ?_
                    refine J_aload_n (pc := 147) dL_call_147 rfl 0 rfl ?_
                    obtain ⟨v33, M34, hc35, h⟩ := obind2_e h
                    refine J_callSX (g := mi_L_tryUndo) (pc := 148) [.ref 0] [] ms_L_tryUndo w_751 (k_L_tryUndo  _ hc35) rfl rfl ⟨⟨Nat.le_of_ble_eq_true rfl, Nat.le_of_ble_eq_true rfl⟩, Nat.le_of_ble_eq_true rfl, Nat.le_of_ble_eq_true rfl⟩ (Nat.le_of_ble_eq_true rfl) dL_call_148 (Jk_vk 1 6 rfl rfl fun hok36 => ?_)
                    cases h
                    refine J_wide (k' := 2) (n' := 12) (Nat.le_of_ble_eq_true rfl) (Nat.le_of_ble_eq_true rfl) ?_
                    exact J_ireturn dL_call_151 rfl rfl rfl rfl rfl
                  · replace h := ifn c97 h
                    by_cases c98 : a1 = 9
                    · replace h := ifp c98 h
                      refine J_topi c98.symm ?_
                      refine J_tableIn (pc := 1) (tgt := 152) dL_call_1 (by decide) (by decide) rfl (by decide) ?_
                      refine J_aload_n (pc := 152) dL_call_152 rfl 0 rfl ?_
                      obtain ⟨v37, M38, hc39, h⟩ := obind2_e h
                      refine J_callSX (g := mi_L_tryBack) (pc := 153) [.ref 0] [] ms_L_tryBack w_759 (k_L_tryBack  _ hc39) rfl rfl ⟨⟨Nat.le_of_ble_eq_true rfl, Nat.le_of_ble_eq_true rfl⟩, Nat.le_of_ble_eq_true rfl, Nat.le_of_ble_eq_true rfl⟩ (Nat.le_of_ble_eq_true rfl) dL_call_153 (Jk_vk 1 6 rfl rfl fun hok40 => ?_)
                      cases h
                      refine J_wide (k' := 2) (n' := 12) (Nat.le_of_ble_eq_true rfl) (Nat.le_of_ble_eq_true rfl) ?_
                      exact J_ireturn dL_call_156 rfl rfl rfl rfl rfl
                    · replace h := ifn c98 h
                      by_cases c99 : a1 = 10
                      · replace h := ifp c99 h
                        refine J_topi c99.symm ?_
                        refine J_tableIn (pc := 1) (tgt := 157) dL_call_1 (by decide) (by decide) rfl (by decide) ?_
                        refine J_aload_n (pc := 157) dL_call_157 rfl 0 rfl ?_
                        refine J_iload_n (pc := 158) dL_call_158 rfl 2 rfl ?_
                        obtain ⟨v41, M42, hc43, h⟩ := obind2_e h
                        refine J_callSX (g := mi_L_tryLane) (pc := 159) [.ref 0, .int a2] [] ms_L_tryLane w_767 (k_L_tryLane  a2 _ hc43) rfl rfl ⟨⟨Nat.le_of_ble_eq_true rfl, Nat.le_of_ble_eq_true rfl⟩, Nat.le_of_ble_eq_true rfl, Nat.le_of_ble_eq_true rfl⟩ (Nat.le_of_ble_eq_true rfl) dL_call_159 (Jk_vk 1 6 rfl rfl fun hok44 => ?_)
                        cases h
                        refine J_wide (k' := 2) (n' := 12) (Nat.le_of_ble_eq_true rfl) (Nat.le_of_ble_eq_true rfl) ?_
                        exact J_ireturn dL_call_162 rfl rfl rfl rfl rfl
                      · replace h := ifn c99 h
                        by_cases c100 : a1 = 11
                        · replace h := ifp c100 h
                          refine J_topi c100.symm ?_
                          refine J_tableIn (pc := 1) (tgt := 163) dL_call_1 (by decide) (by decide) rfl (by decide) ?_
                          refine J_aload_n (pc := 163) dL_call_163 rfl 0 rfl ?_
                          refine J_iload_n (pc := 164) dL_call_164 rfl 2 rfl ?_
                          obtain ⟨v45, M46, hc47, h⟩ := obind2_e h
                          refine J_callSX (g := mi_L_tryPlace) (pc := 165) [.ref 0, .int a2] [] ms_L_tryPlace w_776 (k_L_tryPlace  a2 _ hc47) rfl rfl ⟨⟨Nat.le_of_ble_eq_true rfl, Nat.le_of_ble_eq_true rfl⟩, Nat.le_of_ble_eq_true rfl, Nat.le_of_ble_eq_true rfl⟩ (Nat.le_of_ble_eq_true rfl) dL_call_165 (Jk_vk 1 6 rfl rfl fun hok48 => ?_)
                          cases h
                          refine J_wide (k' := 2) (n' := 12) (Nat.le_of_ble_eq_true rfl) (Nat.le_of_ble_eq_true rfl) ?_
                          exact J_ireturn dL_call_168 rfl rfl rfl rfl rfl
                        · replace h := ifn c100 h
                          by_cases c101 : a1 = 12
                          · replace h := ifp c101 h
                            refine J_topi c101.symm ?_
                            refine J_tableIn (pc := 1) (tgt := 169) dL_call_1 (by decide) (by decide) rfl (by decide) ?_
                            refine J_aload_n (pc := 169) dL_call_169 rfl 0 rfl ?_
                            refine J_iload_n (pc := 170) dL_call_170 rfl 2 rfl ?_
                            obtain ⟨v49, M50, hc51, h⟩ := obind2_e h
                            refine J_callSX (g := mi_L_tryLength) (pc := 171) [.ref 0, .int a2] [] ms_L_tryLength w_783 (k_L_tryLength  a2 _ hc51) rfl rfl ⟨⟨Nat.le_of_ble_eq_true rfl, Nat.le_of_ble_eq_true rfl⟩, Nat.le_of_ble_eq_true rfl, Nat.le_of_ble_eq_true rfl⟩ (Nat.le_of_ble_eq_true rfl) dL_call_171 (Jk_vk 1 6 rfl rfl fun hok52 => ?_)
                            cases h
                            refine J_wide (k' := 2) (n' := 12) (Nat.le_of_ble_eq_true rfl) (Nat.le_of_ble_eq_true rfl) ?_
                            exact J_ireturn dL_call_174 rfl rfl rfl rfl rfl
                          · replace h := ifn c101 h
                            by_cases c102 : a1 = 13
                            · replace h := ifp c102 h
                              refine J_topi c102.symm ?_
                              refine J_tableIn (pc := 1) (tgt := 175) dL_call_1 (by decide) (by decide) rfl (by decide) ?_
                              refine J_aload_n (pc := 175) dL_call_175 rfl 0 rfl ?_
                              refine J_iload_n (pc := 176) dL_call_176 rfl 2 rfl ?_
                              obtain ⟨v53, M54, hc55, h⟩ := obind2_e h
                              refine J_callSX (g := mi_L_tryOn) (pc := 177) [.ref 0, .int a2] [] ms_L_tryOn w_790 (k_L_tryOn  a2 _ hc55) rfl rfl ⟨⟨Nat.le_of_ble_eq_true rfl, Nat.le_of_ble_eq_true rfl⟩, Nat.le_of_ble_eq_true rfl, Nat.le_of_ble_eq_true rfl⟩ (Nat.le_of_ble_eq_true rfl) dL_call_177 (Jk_vk 1 6 rfl rfl fun hok56 => ?_)
                              cases h
                              refine J_wide (k' := 2) (n' := 12) (Nat.le_of_ble_eq_true rfl) (Nat.le_of_ble_eq_true rfl) ?_
                              exact J_ireturn dL_call_180 rfl rfl rfl rfl rfl
                            · replace h := ifn c102 h
                              by_cases c103 : a1 = 14
                              · replace h := ifp c103 h
                                refine J_topi c103.symm ?_
                                refine J_tableIn (pc := 1) (tgt := 181) dL_call_1 (by decide) (by decide) rfl (by decide) ?_
                                refine J_aload_n (pc := 181) dL_call_181 rfl 0 rfl ?_
                                refine J_iload_n (pc := 182) dL_call_182 rfl 2 rfl ?_
                                obtain ⟨v57, M58, hc59, h⟩ := obind2_e h
                                refine J_callSX (g := mi_L_tryLogCar) (pc := 183) [.ref 0, .int a2] [] ms_L_tryLogCar w_799 (k_L_tryLogCar  a2 _ hc59) rfl rfl ⟨⟨Nat.le_of_ble_eq_true rfl, Nat.le_of_ble_eq_true rfl⟩, Nat.le_of_ble_eq_true rfl, Nat.le_of_ble_eq_true rfl⟩ (Nat.le_of_ble_eq_true rfl) dL_call_183 (Jk_vk 1 6 rfl rfl fun hok60 => ?_)
                                cases h
                                refine J_wide (k' := 2) (n' := 12) (Nat.le_of_ble_eq_true rfl) (Nat.le_of_ble_eq_true rfl) ?_
                                exact J_ireturn dL_call_186 rfl rfl rfl rfl rfl
                              · replace h := ifn c103 h
                                by_cases c104 : a1 = 15
                                · replace h := ifp c104 h
                                  refine J_topi c104.symm ?_
                                  refine J_tableIn (pc := 1) (tgt := 187) dL_call_1 (by decide) (by decide) rfl (by decide) ?_
                                  refine J_aload_n (pc := 187) dL_call_187 rfl 0 rfl ?_
                                  refine J_iload_n (pc := 188) dL_call_188 rfl 2 rfl ?_
                                  obtain ⟨v61, M62, hc63, h⟩ := obind2_e h
                                  refine J_callSX (g := mi_L_tryLogBy) (pc := 189) [.ref 0, .int a2] [] ms_L_tryLogBy w_808 (k_L_tryLogBy  a2 _ hc63) rfl rfl ⟨⟨Nat.le_of_ble_eq_true rfl, Nat.le_of_ble_eq_true rfl⟩, Nat.le_of_ble_eq_true rfl, Nat.le_of_ble_eq_true rfl⟩ (Nat.le_of_ble_eq_true rfl) dL_call_189 (Jk_vk 1 6 rfl rfl fun hok64 => ?_)
                                  cases h
                                  refine J_wide (k' := 2) (n' := 12) (Nat.le_of_ble_eq_true rfl) (Nat.le_of_ble_eq_true rfl) ?_
                                  exact J_ireturn dL_call_192 rfl rfl rfl rfl rfl
                                · replace h := ifn c104 h
                                  by_cases c105 : a1 = 16
                                  · replace h := ifp c105 h
                                    refine J_topi c105.symm ?_
                                    refine J_tableIn (pc := 1) (tgt := 193) dL_call_1 (by decide) (by decide) rfl (by decide) ?_
                                    refine J_aload_n (pc := 193) dL_call_193 rfl 0 rfl ?_
                                    refine J_iload_n (pc := 194) dL_call_194 rfl 2 rfl ?_
                                    obtain ⟨v65, M66, hc67, h⟩ := obind2_e h
                                    refine J_callSX (g := mi_L_trySteps) (pc := 195) [.ref 0, .int a2] [] ms_L_trySteps w_815 (k_L_trySteps  a2 _ hc67) rfl rfl ⟨⟨Nat.le_of_ble_eq_true rfl, Nat.le_of_ble_eq_true rfl⟩, Nat.le_of_ble_eq_true rfl, Nat.le_of_ble_eq_true rfl⟩ (Nat.le_of_ble_eq_true rfl) dL_call_195 (Jk_vk 1 6 rfl rfl fun hok68 => ?_)
                                    cases h
                                    refine J_wide (k' := 2) (n' := 12) (Nat.le_of_ble_eq_true rfl) (Nat.le_of_ble_eq_true rfl) ?_
                                    exact J_ireturn dL_call_198 rfl rfl rfl rfl rfl
                                  · replace h := ifn c105 h
                                    by_cases c106 : a1 = 17
                                    · replace h := ifp c106 h
                                      refine J_topi c106.symm ?_
                                      refine J_tableIn (pc := 1) (tgt := 199) dL_call_1 (by decide) (by decide) rfl (by decide) ?_
                                      refine J_aload_n (pc := 199) dL_call_199 rfl 0 rfl ?_
                                      obtain ⟨v69, M70, hc71, h⟩ := obind2_e h
                                      refine J_callSX (g := mi_L_tryNext) (pc := 200) [.ref 0] [] ms_L_tryNext w_822 (k_L_tryNext  _ hc71) rfl rfl ⟨⟨Nat.le_of_ble_eq_true rfl, Nat.le_of_ble_eq_true rfl⟩, Nat.le_of_ble_eq_true rfl, Nat.le_of_ble_eq_true rfl⟩ (Nat.le_of_ble_eq_true rfl) dL_call_200 (Jk_vk 1 6 rfl rfl fun hok72 => ?_)
                                      cases h
                                      refine J_wide (k' := 2) (n' := 12) (Nat.le_of_ble_eq_true rfl) (Nat.le_of_ble_eq_true rfl) ?_
                                      exact J_ireturn dL_call_203 rfl rfl rfl rfl rfl
                                    · replace h := ifn c106 h
                                      by_cases c107 : a1 = 18
                                      · replace h := ifp c107 h
                                        refine J_topi c107.symm ?_
                                        refine J_tableIn (pc := 1) (tgt := 204) dL_call_1 (by decide) (by decide) rfl (by decide) ?_
                                        refine J_aload_n (pc := 204) dL_call_204 rfl 0 rfl ?_
                                        obtain ⟨v73, M74, hc75, h⟩ := obind2_e h
                                        refine J_callSX (g := mi_L_tryChange) (pc := 205) [.ref 0] [] ms_L_tryChange w_834 (k_L_tryChange  _ hc75) rfl rfl ⟨⟨Nat.le_of_ble_eq_true rfl, Nat.le_of_ble_eq_true rfl⟩, Nat.le_of_ble_eq_true rfl, Nat.le_of_ble_eq_true rfl⟩ (Nat.le_of_ble_eq_true rfl) dL_call_205 (Jk_vk 1 6 rfl rfl fun hok76 => ?_)
                                        cases h
                                        refine J_wide (k' := 2) (n' := 12) (Nat.le_of_ble_eq_true rfl) (Nat.le_of_ble_eq_true rfl) ?_
                                        exact J_ireturn dL_call_208 rfl rfl rfl rfl rfl
                                      · replace h := ifn c107 h
                                        by_cases c108 : a1 = 19
                                        · replace h := ifp c108 h
                                          refine J_topi c108.symm ?_
                                          refine J_tableIn (pc := 1) (tgt := 209) dL_call_1 (by decide) (by decide) rfl (by decide) ?_
                                          refine J_aload_n (pc := 209) dL_call_209 rfl 0 rfl ?_
                                          refine J_iload_n (pc := 210) dL_call_210 rfl 2 rfl ?_
                                          refine J_iload_n (pc := 211) dL_call_211 rfl 3 rfl ?_
                                          obtain ⟨v77, M78, hc79, h⟩ := obind2_e h
                                          refine J_callSX (g := mi_L_tryBehind) (pc := 212) [.ref 0, .int a2, .int a3] [] ms_L_tryBehind w_841 (k_L_tryBehind  a2 a3 _ hc79) rfl rfl ⟨⟨Nat.le_of_ble_eq_true rfl, Nat.le_of_ble_eq_true rfl⟩, Nat.le_of_ble_eq_true rfl, Nat.le_of_ble_eq_true rfl⟩ (Nat.le_of_ble_eq_true rfl) dL_call_212 (Jk_vk 1 6 rfl rfl fun hok80 => ?_)
                                          cases h
                                          refine J_wide (k' := 2) (n' := 12) (Nat.le_of_ble_eq_true rfl) (Nat.le_of_ble_eq_true rfl) ?_
                                          exact J_ireturn dL_call_215 rfl rfl rfl rfl rfl
                                        · replace h := ifn c108 h
                                          by_cases c109 : a1 = 20
                                          · replace h := ifp c109 h
                                            refine J_topi c109.symm ?_
                                            refine J_tableIn (pc := 1) (tgt := 216) dL_call_1 (by decide) (by decide) rfl (by decide) ?_
                                            refine J_aload_n (pc := 216) dL_call_216 rfl 0 rfl ?_
                                            obtain ⟨v81, M82, hc83, h⟩ := obind2_e h
                                            refine J_callSX (g := mi_L_tryWithout) (pc := 217) [.ref 0] [] ms_L_tryWithout w_848 (k_L_tryWithout  _ hc83) rfl rfl ⟨⟨Nat.le_of_ble_eq_true rfl, Nat.le_of_ble_eq_true rfl⟩, Nat.le_of_ble_eq_true rfl, Nat.le_of_ble_eq_true rfl⟩ (Nat.le_of_ble_eq_true rfl) dL_call_217 (Jk_vk 1 6 rfl rfl fun hok84 => ?_)
                                            cases h
                                            refine J_wide (k' := 2) (n' := 12) (Nat.le_of_ble_eq_true rfl) (Nat.le_of_ble_eq_true rfl) ?_
                                            exact J_ireturn dL_call_220 rfl rfl rfl rfl rfl
                                          · replace h := ifn c109 h
                                            refine J_tableOut (pc := 1) (tgt := 221) dL_call_1 (tsw_L_call_1 a1 c89 c90 c91 c92 c93 c94 c95 c96 c97 c98 c99 c100 c101 c102 c103 c104 c105 c106 c107 c108 c109) (by decide) ?_
                                            refine J_aload_n (pc := 221) dL_call_221 rfl 0 rfl ?_
                                            refine J_iload_n (pc := 222) dL_call_222 rfl 2 rfl ?_
                                            obtain ⟨v85, M86, hc87, h⟩ := obind2_e h
                                            refine J_callSX (g := mi_L_tryWithWall) (pc := 223) [.ref 0, .int a2] [] ms_L_tryWithWall w_856 (k_L_tryWithWall  a2 _ hc87) rfl rfl ⟨⟨Nat.le_of_ble_eq_true rfl, Nat.le_of_ble_eq_true rfl⟩, Nat.le_of_ble_eq_true rfl, Nat.le_of_ble_eq_true rfl⟩ (Nat.le_of_ble_eq_true rfl) dL_call_223 (Jk_vk 1 6 rfl rfl fun hok88 => ?_)
                                            cases h
                                            refine J_wide (k' := 2) (n' := 12) (Nat.le_of_ble_eq_true rfl) (Nat.le_of_ble_eq_true rfl) ?_
                                            exact J_ireturn dL_call_226 rfl rfl rfl rfl rfl
set_option maxHeartbeats 4000000 in
set_option maxRecDepth 100000 in
theorem k_L_call_n {E : En} (a1 : Int32) (a2 : Int32) (a3 : Int32) (a4 : Int32) (M : Wd) {r : Int32} {M' : Wd} (h : F_L_call_n a1 a2 a3 a4 M = some (r, M')) : Con E mi_L_call_n [.ref 0, .int a1, .int a2, .int a3, .int a4] M (.inl (some (.int r))) M' := by
  unfold F_L_call_n at h
  refine Con.of (by decide) rfl (Nat.le_of_ble_eq_true rfl) (fun κ => ?_)
  show J κ E mi_L_call_n _ 0 0 [(0, .ref 0), (1, .int a1), (2, .int a2), (3, .int a3), (4, .int a4)] M 0 []
  refine J_iload_n (pc := 0) dL_call_0 rfl 1 rfl ?_
  by_cases c26 : a1 = 0
  · replace h := ifp c26 h
    refine J_topi c26.symm ?_
    refine J_tableIn (pc := 1) (tgt := 100) dL_call_1 (by decide) (by decide) rfl (by decide) ?_
    refine J_aload_n (pc := 100) dL_call_100 rfl 0 rfl ?_
    refine J_iload_n (pc := 101) dL_call_101 rfl 2 rfl ?_
    refine J_iload_n (pc := 102) dL_call_102 rfl 3 rfl ?_
    refine J_iload (pc := 103) dL_call_103 4 rfl ?_
    cases h
  · replace h := ifn c26 h
    by_cases c27 : a1 = 1
    · replace h := ifp c27 h
      refine J_topi c27.symm ?_
      refine J_tableIn (pc := 1) (tgt := 109) dL_call_1 (by decide) (by decide) rfl (by decide) ?_
      refine J_aload_n (pc := 109) dL_call_109 rfl 0 rfl ?_
      cases h
    · replace h := ifn c27 h
      by_cases c28 : a1 = 2
      · replace h := ifp c28 h
        refine J_topi c28.symm ?_
        refine J_tableIn (pc := 1) (tgt := 114) dL_call_1 (by decide) (by decide) rfl (by decide) ?_
        refine J_aload_n (pc := 114) dL_call_114 rfl 0 rfl ?_
        refine J_iload_n (pc := 115) dL_call_115 rfl 2 rfl ?_
        refine J_iload_n (pc := 116) dL_call_116 rfl 3 rfl ?_
        cases h
      · replace h := ifn c28 h
        by_cases c29 : a1 = 3
        · replace h := ifp c29 h
          refine J_topi c29.symm ?_
          refine J_tableIn (pc := 1) (tgt := 121) dL_call_1 (by decide) (by decide) rfl (by decide) ?_
          refine J_aload_n (pc := 121) dL_call_121 rfl 0 rfl ?_
          cases h
        · replace h := ifn c29 h
          by_cases c30 : a1 = 4
          · replace h := ifp c30 h
            refine J_topi c30.symm ?_
            refine J_tableIn (pc := 1) (tgt := 126) dL_call_1 (by decide) (by decide) rfl (by decide) ?_
            refine J_aload_n (pc := 126) dL_call_126 rfl 0 rfl ?_
            cases h
          · replace h := ifn c30 h
            by_cases c31 : a1 = 5
            · replace h := ifp c31 h
              refine J_topi c31.symm ?_
              refine J_tableIn (pc := 1) (tgt := 131) dL_call_1 (by decide) (by decide) rfl (by decide) ?_
              refine J_aload_n (pc := 131) dL_call_131 rfl 0 rfl ?_
              refine J_iload_n (pc := 132) dL_call_132 rfl 2 rfl ?_
              cases h
            · replace h := ifn c31 h
              by_cases c32 : a1 = 6
              · replace h := ifp c32 h
                refine J_topi c32.symm ?_
                refine J_tableIn (pc := 1) (tgt := 137) dL_call_1 (by decide) (by decide) rfl (by decide) ?_
                refine J_aload_n (pc := 137) dL_call_137 rfl 0 rfl ?_
                cases h
              · replace h := ifn c32 h
                by_cases c33 : a1 = 7
                · replace h := ifp c33 h
                  refine J_topi c33.symm ?_
                  refine J_tableIn (pc := 1) (tgt := 142) dL_call_1 (by decide) (by decide) rfl (by decide) ?_
                  refine J_aload_n (pc := 142) dL_call_142 rfl 0 rfl ?_
                  cases h
                · replace h := ifn c33 h
                  by_cases c34 : a1 = 8
                  · replace h := ifp c34 h
                    refine J_topi c34.symm ?_
                    refine J_tableIn (pc := 1) (tgt := 147) dL_call_1 (by decide) (by decide) rfl (by decide) ?_
                    refine J_aload_n (pc := 147) dL_call_147 rfl 0 rfl ?_
                    obtain ⟨v1, M2, hc3, h⟩ := obind2_e h
                    refine J_callSX (g := mi_L_tryUndo_n) (pc := 148) [.ref 0] [] ms_L_tryUndo_n w_751 (k_L_tryUndo_n  _ hc3) rfl rfl ⟨⟨Nat.le_of_ble_eq_true rfl, Nat.le_of_ble_eq_true rfl⟩, Nat.le_of_ble_eq_true rfl, Nat.le_of_ble_eq_true rfl⟩ (Nat.le_of_ble_eq_true rfl) dL_call_148 (Jk_v rfl rfl fun hok4 => ?_)
                    cases h
                    exact J_ireturn dL_call_151 rfl rfl rfl rfl rfl
                  · replace h := ifn c34 h
                    by_cases c35 : a1 = 9
                    · replace h := ifp c35 h
                      refine J_topi c35.symm ?_
                      refine J_tableIn (pc := 1) (tgt := 152) dL_call_1 (by decide) (by decide) rfl (by decide) ?_
                      refine J_aload_n (pc := 152) dL_call_152 rfl 0 rfl ?_
                      cases h
                    · replace h := ifn c35 h
                      by_cases c36 : a1 = 10
                      · replace h := ifp c36 h
                        refine J_topi c36.symm ?_
                        refine J_tableIn (pc := 1) (tgt := 157) dL_call_1 (by decide) (by decide) rfl (by decide) ?_
                        refine J_aload_n (pc := 157) dL_call_157 rfl 0 rfl ?_
                        refine J_iload_n (pc := 158) dL_call_158 rfl 2 rfl ?_
                        obtain ⟨v5, hc6, h⟩ := obind_e h
                        refine J_callSX (g := mi_L_tryLane_n) (pc := 159) [.ref 0, .int a2] [] ms_L_tryLane_n w_767 (k_L_tryLane_n  a2 _ hc6) rfl rfl ⟨⟨Nat.le_of_ble_eq_true rfl, Nat.le_of_ble_eq_true rfl⟩, Nat.le_of_ble_eq_true rfl, Nat.le_of_ble_eq_true rfl⟩ (Nat.le_of_ble_eq_true rfl) dL_call_159 (Jk_v rfl rfl fun hok7 => ?_)
                        cases h
                        exact J_ireturn dL_call_162 rfl rfl rfl rfl rfl
                      · replace h := ifn c36 h
                        by_cases c37 : a1 = 11
                        · replace h := ifp c37 h
                          refine J_topi c37.symm ?_
                          refine J_tableIn (pc := 1) (tgt := 163) dL_call_1 (by decide) (by decide) rfl (by decide) ?_
                          refine J_aload_n (pc := 163) dL_call_163 rfl 0 rfl ?_
                          refine J_iload_n (pc := 164) dL_call_164 rfl 2 rfl ?_
                          obtain ⟨v8, hc9, h⟩ := obind_e h
                          refine J_callSX (g := mi_L_tryPlace_n) (pc := 165) [.ref 0, .int a2] [] ms_L_tryPlace_n w_776 (k_L_tryPlace_n  a2 _ hc9) rfl rfl ⟨⟨Nat.le_of_ble_eq_true rfl, Nat.le_of_ble_eq_true rfl⟩, Nat.le_of_ble_eq_true rfl, Nat.le_of_ble_eq_true rfl⟩ (Nat.le_of_ble_eq_true rfl) dL_call_165 (Jk_v rfl rfl fun hok10 => ?_)
                          cases h
                          exact J_ireturn dL_call_168 rfl rfl rfl rfl rfl
                        · replace h := ifn c37 h
                          by_cases c38 : a1 = 12
                          · replace h := ifp c38 h
                            refine J_topi c38.symm ?_
                            refine J_tableIn (pc := 1) (tgt := 169) dL_call_1 (by decide) (by decide) rfl (by decide) ?_
                            refine J_aload_n (pc := 169) dL_call_169 rfl 0 rfl ?_
                            refine J_iload_n (pc := 170) dL_call_170 rfl 2 rfl ?_
                            obtain ⟨v11, hc12, h⟩ := obind_e h
                            refine J_callSX (g := mi_L_tryLength_n) (pc := 171) [.ref 0, .int a2] [] ms_L_tryLength_n w_783 (k_L_tryLength_n  a2 _ hc12) rfl rfl ⟨⟨Nat.le_of_ble_eq_true rfl, Nat.le_of_ble_eq_true rfl⟩, Nat.le_of_ble_eq_true rfl, Nat.le_of_ble_eq_true rfl⟩ (Nat.le_of_ble_eq_true rfl) dL_call_171 (Jk_v rfl rfl fun hok13 => ?_)
                            cases h
                            exact J_ireturn dL_call_174 rfl rfl rfl rfl rfl
                          · replace h := ifn c38 h
                            by_cases c39 : a1 = 13
                            · replace h := ifp c39 h
                              refine J_topi c39.symm ?_
                              refine J_tableIn (pc := 1) (tgt := 175) dL_call_1 (by decide) (by decide) rfl (by decide) ?_
                              refine J_aload_n (pc := 175) dL_call_175 rfl 0 rfl ?_
                              refine J_iload_n (pc := 176) dL_call_176 rfl 2 rfl ?_
                              obtain ⟨v14, hc15, h⟩ := obind_e h
                              refine J_callSX (g := mi_L_tryOn_n) (pc := 177) [.ref 0, .int a2] [] ms_L_tryOn_n w_790 (k_L_tryOn_n  a2 _ hc15) rfl rfl ⟨⟨Nat.le_of_ble_eq_true rfl, Nat.le_of_ble_eq_true rfl⟩, Nat.le_of_ble_eq_true rfl, Nat.le_of_ble_eq_true rfl⟩ (Nat.le_of_ble_eq_true rfl) dL_call_177 (Jk_v rfl rfl fun hok16 => ?_)
                              cases h
                              exact J_ireturn dL_call_180 rfl rfl rfl rfl rfl
                            · replace h := ifn c39 h
                              by_cases c40 : a1 = 14
                              · replace h := ifp c40 h
                                refine J_topi c40.symm ?_
                                refine J_tableIn (pc := 1) (tgt := 181) dL_call_1 (by decide) (by decide) rfl (by decide) ?_
                                refine J_aload_n (pc := 181) dL_call_181 rfl 0 rfl ?_
                                refine J_iload_n (pc := 182) dL_call_182 rfl 2 rfl ?_
                                obtain ⟨v17, hc18, h⟩ := obind_e h
                                refine J_callSX (g := mi_L_tryLogCar_n) (pc := 183) [.ref 0, .int a2] [] ms_L_tryLogCar_n w_799 (k_L_tryLogCar_n  a2 _ hc18) rfl rfl ⟨⟨Nat.le_of_ble_eq_true rfl, Nat.le_of_ble_eq_true rfl⟩, Nat.le_of_ble_eq_true rfl, Nat.le_of_ble_eq_true rfl⟩ (Nat.le_of_ble_eq_true rfl) dL_call_183 (Jk_v rfl rfl fun hok19 => ?_)
                                cases h
                                exact J_ireturn dL_call_186 rfl rfl rfl rfl rfl
                              · replace h := ifn c40 h
                                by_cases c41 : a1 = 15
                                · replace h := ifp c41 h
                                  refine J_topi c41.symm ?_
                                  refine J_tableIn (pc := 1) (tgt := 187) dL_call_1 (by decide) (by decide) rfl (by decide) ?_
                                  refine J_aload_n (pc := 187) dL_call_187 rfl 0 rfl ?_
                                  refine J_iload_n (pc := 188) dL_call_188 rfl 2 rfl ?_
                                  obtain ⟨v20, hc21, h⟩ := obind_e h
                                  refine J_callSX (g := mi_L_tryLogBy_n) (pc := 189) [.ref 0, .int a2] [] ms_L_tryLogBy_n w_808 (k_L_tryLogBy_n  a2 _ hc21) rfl rfl ⟨⟨Nat.le_of_ble_eq_true rfl, Nat.le_of_ble_eq_true rfl⟩, Nat.le_of_ble_eq_true rfl, Nat.le_of_ble_eq_true rfl⟩ (Nat.le_of_ble_eq_true rfl) dL_call_189 (Jk_v rfl rfl fun hok22 => ?_)
                                  cases h
                                  exact J_ireturn dL_call_192 rfl rfl rfl rfl rfl
                                · replace h := ifn c41 h
                                  by_cases c42 : a1 = 16
                                  · replace h := ifp c42 h
                                    refine J_topi c42.symm ?_
                                    refine J_tableIn (pc := 1) (tgt := 193) dL_call_1 (by decide) (by decide) rfl (by decide) ?_
                                    refine J_aload_n (pc := 193) dL_call_193 rfl 0 rfl ?_
                                    refine J_iload_n (pc := 194) dL_call_194 rfl 2 rfl ?_
                                    obtain ⟨v23, hc24, h⟩ := obind_e h
                                    refine J_callSX (g := mi_L_trySteps_n) (pc := 195) [.ref 0, .int a2] [] ms_L_trySteps_n w_815 (k_L_trySteps_n  a2 _ hc24) rfl rfl ⟨⟨Nat.le_of_ble_eq_true rfl, Nat.le_of_ble_eq_true rfl⟩, Nat.le_of_ble_eq_true rfl, Nat.le_of_ble_eq_true rfl⟩ (Nat.le_of_ble_eq_true rfl) dL_call_195 (Jk_v rfl rfl fun hok25 => ?_)
                                    cases h
                                    exact J_ireturn dL_call_198 rfl rfl rfl rfl rfl
                                  · replace h := ifn c42 h
                                    by_cases c43 : a1 = 17
                                    · replace h := ifp c43 h
                                      refine J_topi c43.symm ?_
                                      refine J_tableIn (pc := 1) (tgt := 199) dL_call_1 (by decide) (by decide) rfl (by decide) ?_
                                      refine J_aload_n (pc := 199) dL_call_199 rfl 0 rfl ?_
                                      cases h
                                    · replace h := ifn c43 h
                                      by_cases c44 : a1 = 18
                                      · replace h := ifp c44 h
                                        refine J_topi c44.symm ?_
                                        refine J_tableIn (pc := 1) (tgt := 204) dL_call_1 (by decide) (by decide) rfl (by decide) ?_
                                        refine J_aload_n (pc := 204) dL_call_204 rfl 0 rfl ?_
                                        cases h
                                      · replace h := ifn c44 h
                                        by_cases c45 : a1 = 19
                                        · replace h := ifp c45 h
                                          refine J_topi c45.symm ?_
                                          refine J_tableIn (pc := 1) (tgt := 209) dL_call_1 (by decide) (by decide) rfl (by decide) ?_
                                          refine J_aload_n (pc := 209) dL_call_209 rfl 0 rfl ?_
                                          refine J_iload_n (pc := 210) dL_call_210 rfl 2 rfl ?_
                                          refine J_iload_n (pc := 211) dL_call_211 rfl 3 rfl ?_
                                          cases h
                                        · replace h := ifn c45 h
                                          by_cases c46 : a1 = 20
                                          · replace h := ifp c46 h
                                            refine J_topi c46.symm ?_
                                            refine J_tableIn (pc := 1) (tgt := 216) dL_call_1 (by decide) (by decide) rfl (by decide) ?_
                                            refine J_aload_n (pc := 216) dL_call_216 rfl 0 rfl ?_
                                            cases h
                                          · replace h := ifn c46 h
                                            refine J_tableOut (pc := 1) (tgt := 221) dL_call_1 (tsw_L_call_1 a1 c26 c27 c28 c29 c30 c31 c32 c33 c34 c35 c36 c37 c38 c39 c40 c41 c42 c43 c44 c45 c46) (by decide) ?_
                                            refine J_aload_n (pc := 221) dL_call_221 rfl 0 rfl ?_
                                            refine J_iload_n (pc := 222) dL_call_222 rfl 2 rfl ?_
                                            cases h
set_option maxHeartbeats 4000000 in
set_option maxRecDepth 100000 in
theorem k_L_thrown {E : En} (a0 : Int32) (M : Wd) : Con E mi_L_thrown [.int a0] M (.inl (some (.int (F_L_thrown a0)))) M := by
  obtain ⟨r, h⟩ : ∃ r, F_L_thrown a0 = r := ⟨_, rfl⟩
  rw [h]
  unfold F_L_thrown at h
  refine Con.of (by decide) rfl (Nat.le_of_ble_eq_true rfl) (fun κ => ?_)
  show J κ E mi_L_thrown _ 0 0 [(0, .int a0)] M 0 []
  refine J_iload_n (pc := 0) dL_thrown_0 rfl 0 rfl ?_
  refine J_ldc (pc := 1) w_573 dL_thrown_1 ?_
  refine J_icmp_eq (pc := 3) (tgt := 18) dL_thrown_3 (by decide) (fun c1 => ?_) (fun c1 => ?_)
  · replace h := ifp c1 h
    refine J_iconst (v := (1 : Int32)) (pc := 18) dL_thrown_18 (by decide) ?_
    refine J_goto (pc := 19) (tgt := 23) dL_thrown_19 (by decide) ?_
    subst h
    exact J_zreturn dL_thrown_23 rfl (Or.inr rfl) rfl rfl rfl rfl
  · replace h := ifn c1 h
    refine J_iload_n (pc := 6) dL_thrown_6 rfl 0 rfl ?_
    refine J_ldc (pc := 7) w_574 dL_thrown_7 ?_
    refine J_icmp_eq (pc := 9) (tgt := 18) dL_thrown_9 (by decide) (fun c2 => ?_) (fun c2 => ?_)
    · replace h := ifp c2 h
      refine J_iconst (v := (1 : Int32)) (pc := 18) dL_thrown_18 (by decide) ?_
      refine J_goto (pc := 19) (tgt := 23) dL_thrown_19 (by decide) ?_
      subst h
      exact J_zreturn dL_thrown_23 rfl (Or.inr rfl) rfl rfl rfl rfl
    · replace h := ifn c2 h
      refine J_iload_n (pc := 12) dL_thrown_12 rfl 0 rfl ?_
      refine J_ldc (pc := 13) w_575 dL_thrown_13 ?_
      refine J_icmp_ne (pc := 15) (tgt := 22) dL_thrown_15 (by decide) (fun c3 => ?_) (fun c3 => ?_)
      · replace h := ifn c3 h
        refine J_iconst (v := (0 : Int32)) (pc := 22) dL_thrown_22 (by decide) ?_
        subst h
        exact J_zreturn dL_thrown_23 rfl (Or.inl rfl) rfl rfl rfl rfl
      · replace h := ifp c3 h
        refine J_iconst (v := (1 : Int32)) (pc := 18) dL_thrown_18 (by decide) ?_
        refine J_goto (pc := 19) (tgt := 23) dL_thrown_19 (by decide) ?_
        subst h
        exact J_zreturn dL_thrown_23 rfl (Or.inr rfl) rfl rfl rfl rfl
set_option maxHeartbeats 4000000 in
set_option maxRecDepth 100000 in
theorem k_L_refuses {E : En} (a1 : Int32) (M : Wd) {r : Int32} {M' : Wd} (h : F_L_refuses a1 M = some (r, M')) : Con E mi_L_refuses [.ref 0, .int a1] M (.inl (some (.int r))) M' := by
  unfold F_L_refuses at h
  refine Con.of (by decide) rfl (Nat.le_of_ble_eq_true rfl) (fun κ => ?_)
  show J κ E mi_L_refuses _ 0 0 [(0, .ref 0), (1, .int a1)] M 0 []
  refine J_iload_n (pc := 0) dL_refuses_0 rfl 1 rfl ?_
  refine J_iconst (v := (2 : Int32)) (pc := 1) dL_refuses_1 (by decide) ?_
  refine J_irem (pc := 2) dL_refuses_2 (by decide) ?_
  obtain ⟨v1, e2, h⟩ := bnd_e h
  refine J_join [(0, .ref 0), (1, .int a1)] M 24 [.int v1] ?_ (fun hJ => ?_)
  · refine J_istore_n (pc := 24) dL_refuses_24 rfl (Nat.le_of_ble_eq_true rfl) [1, 2, 0] rfl ?_
    refine J_iload_n (pc := 25) dL_refuses_25 rfl 1 rfl ?_
    refine J_iconst (v := (2 : Int32)) (pc := 26) dL_refuses_26 (by decide) ?_
    refine J_irem (pc := 27) dL_refuses_27 (by decide) ?_
    obtain ⟨v5, e6, h⟩ := bnd_e h
    refine J_join [(0, .ref 0), (1, .int a1), (2, .int v1)] M 47 [.int v5] ?_ (fun hJ => ?_)
    · refine J_istore_n (pc := 47) dL_refuses_47 rfl (Nat.le_of_ble_eq_true rfl) [1, 2, 3, 0] rfl ?_
      refine J_iload_n (pc := 48) dL_refuses_48 rfl 1 rfl ?_
      refine J_bipush (v := (10 : Int32)) (pc := 49) dL_refuses_49 (by decide) ?_
      refine J_irem (pc := 51) dL_refuses_51 (by decide) ?_
      obtain ⟨v8, e9, h⟩ := bnd_e h
      refine J_topi e9 ?_
      refine J_istore (pc := 52) dL_refuses_52 (Nat.le_of_ble_eq_true rfl) [1, 2, 3, 4, 0] rfl ?_
      refine J_LS [(0, .ref 0), (1, .int a1), (2, .int v1), (3, .int v5), (4, .int v8)] [] rfl rfl ?_
      refine J_aload_n (pc := 54) dL_refuses_54 rfl 0 rfl ?_
      refine J_iconst (v := (0 : Int32)) (pc := 55) dL_refuses_55 (by decide) ?_
      refine J_iload_n (pc := 56) dL_refuses_56 rfl 1 rfl ?_
      refine J_iconst (v := (2 : Int32)) (pc := 57) dL_refuses_57 (by decide) ?_
      refine J_irem (pc := 58) dL_refuses_58 (by decide) ?_
      obtain ⟨v10, e11, h⟩ := bnd_e h
      refine J_join [(0, .ref 0), (1, .int a1), (2, .int v1), (3, .int v5), (4, .int v8)] M 78 [.int v10, .int (0 : Int32), .ref 0] ?_ (fun hJ => ?_)
      · refine J_bipush (v := (9 : Int32)) (pc := 78) dL_refuses_78 (by decide) ?_
        refine J_bipush (v := (9 : Int32)) (pc := 80) dL_refuses_80 (by decide) ?_
        obtain ⟨v13, M14, hc15, h⟩ := obind2_e h
        refine J_callS (g := mi_L_call) (pc := 82) [.ref 0, .int (0 : Int32), .int v10, .int (9 : Int32), .int (9 : Int32)] [] ms_L_call w_431 (k_L_call  (0 : Int32) v10 (9 : Int32) (9 : Int32) _ hc15) rfl rfl ⟨⟨Nat.le_of_ble_eq_true rfl, Nat.le_of_ble_eq_true rfl⟩, Nat.le_of_ble_eq_true rfl, Nat.le_of_ble_eq_true rfl⟩ (Nat.le_of_ble_eq_true rfl) dL_refuses_82 (Jk_vk 2 12 rfl rfl fun hok16 => ?_)
        refine J_ldc (pc := 85) w_573 dL_refuses_85 ?_
        obtain ⟨v17, M18, hv130, h⟩ := obind2_e h
        refine J_joinW 37 222 [(0, .ref 0), (1, .int a1), (4, .int v8)] M18 411 [.int v17] ?_ (fun hJ => ?_)
        · refine J_istore (pc := 411) dL_refuses_411 (Nat.le_of_ble_eq_true rfl) [1, 2, 3, 0] rfl ?_
          refine J_iload_n (pc := 413) dL_refuses_413 rfl 1 rfl ?_
          refine J_bipush (v := (25 : Int32)) (pc := 414) dL_refuses_414 (by decide) ?_
          refine J_irem (pc := 416) dL_refuses_416 (by decide) ?_
          obtain ⟨v131, e132, h⟩ := bnd_e h
          refine J_topi e132 ?_
          refine J_istore (pc := 417) dL_refuses_417 (Nat.le_of_ble_eq_true rfl) [1, 2, 3, 4, 0] rfl ?_
          refine J_LS [(0, .ref 0), (1, .int a1), (4, .int v8), (5, .int v17), (6, .int v131)] [] rfl rfl ?_
          refine J_aload_n (pc := 419) dL_refuses_419 rfl 0 rfl ?_
          refine J_bipush (v := (13 : Int32)) (pc := 420) dL_refuses_420 (by decide) ?_
          refine J_iload (pc := 422) dL_refuses_422 4 rfl ?_
          refine J_iconst (v := (0 : Int32)) (pc := 424) dL_refuses_424 (by decide) ?_
          refine J_iconst (v := (0 : Int32)) (pc := 425) dL_refuses_425 (by decide) ?_
          obtain ⟨v133, M134, hc135, h⟩ := obind2_e h
          refine J_callS (g := mi_L_call) (pc := 426) [.ref 0, .int (13 : Int32), .int v131, .int (0 : Int32), .int (0 : Int32)] [] ms_L_call w_431 (k_L_call  (13 : Int32) v131 (0 : Int32) (0 : Int32) _ hc135) rfl rfl ⟨⟨Nat.le_of_ble_eq_true rfl, Nat.le_of_ble_eq_true rfl⟩, Nat.le_of_ble_eq_true rfl, Nat.le_of_ble_eq_true rfl⟩ (Nat.le_of_ble_eq_true rfl) dL_refuses_426 (Jk_vk 39 234 rfl rfl fun hok136 => ?_)
          refine J_iconst (v := (-1 : Int32)) (pc := 429) dL_refuses_429 (by decide) ?_
          obtain ⟨v137, e138, h⟩ := bnd_e h
          have hb140 : isB v137 := by rw [e138]; repeat (first | exact Or.inl rfl | exact Or.inr rfl | assumption | exact okB_b (by assumption) | apply isB_ite)
          refine J_join [(0, .ref 0), (1, .int a1), (4, .int v8), (5, .int v17), (6, .int v131)] M134 438 [.int v137] ?_ (fun hJ => ?_)
          · refine J_istore (pc := 438) dL_refuses_438 (Nat.le_of_ble_eq_true rfl) [1, 2, 3, 4, 5, 0] rfl ?_
            refine J_iload (pc := 440) dL_refuses_440 3 rfl ?_
            obtain ⟨v141, M142, hv237, h⟩ := obind2_e h
            refine J_joinW 61 366 [(0, .ref 0), (1, .int a1), (4, .int v8)] M142 673 [.int v141] ?_ (fun hJ => ?_)
            · refine J_istore (pc := 673) dL_refuses_673 (Nat.le_of_ble_eq_true rfl) [1, 2, 3, 0] rfl ?_
              refine J_aload_n (pc := 675) dL_refuses_675 rfl 0 rfl ?_
              refine J_callV (g := mi_X3_cars) (ci := 3) (pc := 676) [] [] mv_X3_cars w_427 (k_X3_cars  _) rfl (by decide) rfl rfl rfl ⟨⟨Nat.le_of_ble_eq_true rfl, Nat.le_of_ble_eq_true rfl⟩, Nat.le_of_ble_eq_true rfl, Nat.le_of_ble_eq_true rfl⟩ (Nat.le_of_ble_eq_true rfl) dL_refuses_676 (Jk_v rfl rfl fun hok238 => ?_)
              refine J_jp [(5, .int v141)] 61 366 687 [] h ?_ (fun K239 hK239 h => ?_)
              · intro M240 h
                refine J_iload (pc := 687) dL_refuses_687 0 rfl ?_
                obtain ⟨hb241, h⟩ := chB_e h
                cases h
                refine J_wide (k' := 83) (n' := 498) (Nat.le_of_ble_eq_true rfl) (Nat.le_of_ble_eq_true rfl) ?_
                exact J_zreturn dL_refuses_689 rfl hb241 rfl rfl rfl rfl
              refine J_if_eq (pc := 679) (tgt := 687) dL_refuses_679 (by decide) (fun c242 => ?_) (fun c242 => ?_)
              · replace h := ifp c242 h
                refine J_sub [3] rfl ?_
                exact hK239 _ h
              · replace h := ifn c242 h
                refine J_iload (pc := 682) dL_refuses_682 3 rfl ?_
                refine J_if_ne (pc := 684) (tgt := 690) dL_refuses_684 (by decide) (fun c243 => ?_) (fun c243 => ?_)
                · replace h := ifn c243 h
                  refine J_iload_n (pc := 690) dL_refuses_690 rfl 1 rfl ?_
                  refine J_bipush (v := (8 : Int32)) (pc := 691) dL_refuses_691 (by decide) ?_
                  refine J_idiv (pc := 693) dL_refuses_693 (by decide) ?_
                  refine J_aload_n (pc := 694) dL_refuses_694 rfl 0 rfl ?_
                  refine J_callV (g := mi_X3_cars) (ci := 3) (pc := 695) [] [.int (a1 / (8 : Int32))] mv_X3_cars w_427 (k_X3_cars  _) rfl (by decide) rfl rfl rfl ⟨⟨Nat.le_of_ble_eq_true rfl, Nat.le_of_ble_eq_true rfl⟩, Nat.le_of_ble_eq_true rfl, Nat.le_of_ble_eq_true rfl⟩ (Nat.le_of_ble_eq_true rfl) dL_refuses_695 (Jk_v rfl rfl fun hok244 => ?_)
                  obtain ⟨hn245, h⟩ := grd_e h
                  refine J_irem (pc := 698) dL_refuses_698 hn245 ?_
                  obtain ⟨v246, e247, h⟩ := bnd_e h
                  refine J_topi e247 ?_
                  refine J_istore (pc := 699) dL_refuses_699 (Nat.le_of_ble_eq_true rfl) [1, 2, 3, 4, 0] rfl ?_
                  refine J_LS [(0, .ref 0), (1, .int a1), (4, .int v8), (5, .int v141), (8, .int v246)] [] rfl rfl ?_
                  refine J_iconst (v := (1 : Int32)) (pc := 701) dL_refuses_701 (by decide) ?_
                  refine J_iload_n (pc := 702) dL_refuses_702 rfl 1 rfl ?_
                  refine J_iconst (v := (3 : Int32)) (pc := 703) dL_refuses_703 (by decide) ?_
                  refine J_irem (pc := 704) dL_refuses_704 (by decide) ?_
                  refine J_iadd (pc := 705) dL_refuses_705 ?_
                  obtain ⟨v248, e249, h⟩ := bnd_e h
                  refine J_topi e249 ?_
                  refine J_istore (pc := 706) dL_refuses_706 (Nat.le_of_ble_eq_true rfl) [1, 2, 3, 4, 5, 0] rfl ?_
                  refine J_aload_n (pc := 708) dL_refuses_708 rfl 0 rfl ?_
                  refine J_iconst (v := (2 : Int32)) (pc := 709) dL_refuses_709 (by decide) ?_
                  refine J_iload (pc := 710) dL_refuses_710 4 rfl ?_
                  refine J_iconst (v := (0 : Int32)) (pc := 712) dL_refuses_712 (by decide) ?_
                  refine J_iconst (v := (0 : Int32)) (pc := 713) dL_refuses_713 (by decide) ?_
                  obtain ⟨v250, M251, hc252, h⟩ := obind2_e h
                  refine J_callS (g := mi_L_call) (pc := 714) [.ref 0, .int (2 : Int32), .int v246, .int (0 : Int32), .int (0 : Int32)] [] ms_L_call w_431 (k_L_call  (2 : Int32) v246 (0 : Int32) (0 : Int32) _ hc252) rfl rfl ⟨⟨Nat.le_of_ble_eq_true rfl, Nat.le_of_ble_eq_true rfl⟩, Nat.le_of_ble_eq_true rfl, Nat.le_of_ble_eq_true rfl⟩ (Nat.le_of_ble_eq_true rfl) dL_refuses_714 (Jk_vk 63 378 rfl rfl fun hok253 => ?_)
                  refine J_ldc (pc := 717) w_574 dL_refuses_717 ?_
                  refine J_icmp_ne (pc := 719) (tgt := 886) dL_refuses_719 (by decide) (fun c254 => ?_) (fun c254 => ?_)
                  · replace h := ifn c254 h
                    refine J_iconst (v := (0 : Int32)) (pc := 886) dL_refuses_886 (by decide) ?_
                    cases h
                    refine J_wide (k' := 83) (n' := 498) (Nat.le_of_ble_eq_true rfl) (Nat.le_of_ble_eq_true rfl) ?_
                    exact J_zreturn dL_refuses_887 rfl (Or.inl rfl) rfl rfl rfl rfl
                  · replace h := ifp c254 h
                    refine J_aload_n (pc := 722) dL_refuses_722 rfl 0 rfl ?_
                    refine J_iconst (v := (2 : Int32)) (pc := 723) dL_refuses_723 (by decide) ?_
                    refine J_iload (pc := 724) dL_refuses_724 4 rfl ?_
                    refine J_iconst (v := (4 : Int32)) (pc := 726) dL_refuses_726 (by decide) ?_
                    refine J_iload_n (pc := 727) dL_refuses_727 rfl 1 rfl ?_
                    refine J_bipush (v := (9 : Int32)) (pc := 728) dL_refuses_728 (by decide) ?_
                    refine J_irem (pc := 730) dL_refuses_730 (by decide) ?_
                    refine J_iadd (pc := 731) dL_refuses_731 ?_
                    refine J_iconst (v := (0 : Int32)) (pc := 732) dL_refuses_732 (by decide) ?_
                    obtain ⟨v255, M256, hc257, h⟩ := obind2_e h
                    refine J_callS (g := mi_L_call) (pc := 733) [.ref 0, .int (2 : Int32), .int v246, .int ((4 : Int32) + (a1 - a1 / (9 : Int32) * (9 : Int32))), .int (0 : Int32)] [] ms_L_call w_431 (k_L_call  (2 : Int32) v246 ((4 : Int32) + (a1 - a1 / (9 : Int32) * (9 : Int32))) (0 : Int32) _ hc257) rfl rfl ⟨⟨Nat.le_of_ble_eq_true rfl, Nat.le_of_ble_eq_true rfl⟩, Nat.le_of_ble_eq_true rfl, Nat.le_of_ble_eq_true rfl⟩ (Nat.le_of_ble_eq_true rfl) dL_refuses_733 (Jk_vk 65 390 rfl rfl fun hok258 => ?_)
                    refine J_ldc (pc := 736) w_574 dL_refuses_736 ?_
                    refine J_icmp_ne (pc := 738) (tgt := 886) dL_refuses_738 (by decide) (fun c259 => ?_) (fun c259 => ?_)
                    · replace h := ifn c259 h
                      refine J_iconst (v := (0 : Int32)) (pc := 886) dL_refuses_886 (by decide) ?_
                      cases h
                      refine J_wide (k' := 83) (n' := 498) (Nat.le_of_ble_eq_true rfl) (Nat.le_of_ble_eq_true rfl) ?_
                      exact J_zreturn dL_refuses_887 rfl (Or.inl rfl) rfl rfl rfl rfl
                    · replace h := ifp c259 h
                      refine J_aload_n (pc := 741) dL_refuses_741 rfl 0 rfl ?_
                      refine J_bipush (v := (19 : Int32)) (pc := 742) dL_refuses_742 (by decide) ?_
                      refine J_iload (pc := 744) dL_refuses_744 4 rfl ?_
                      refine J_bipush (v := (-4 : Int32)) (pc := 746) dL_refuses_746 (by decide) ?_
                      refine J_iconst (v := (0 : Int32)) (pc := 748) dL_refuses_748 (by decide) ?_
                      obtain ⟨v260, M261, hc262, h⟩ := obind2_e h
                      refine J_callS (g := mi_L_call) (pc := 749) [.ref 0, .int (19 : Int32), .int v246, .int (-4 : Int32), .int (0 : Int32)] [] ms_L_call w_431 (k_L_call  (19 : Int32) v246 (-4 : Int32) (0 : Int32) _ hc262) rfl rfl ⟨⟨Nat.le_of_ble_eq_true rfl, Nat.le_of_ble_eq_true rfl⟩, Nat.le_of_ble_eq_true rfl, Nat.le_of_ble_eq_true rfl⟩ (Nat.le_of_ble_eq_true rfl) dL_refuses_749 (Jk_vk 67 402 rfl rfl fun hok263 => ?_)
                      refine J_ldc (pc := 752) w_574 dL_refuses_752 ?_
                      refine J_icmp_ne (pc := 754) (tgt := 886) dL_refuses_754 (by decide) (fun c264 => ?_) (fun c264 => ?_)
                      · replace h := ifn c264 h
                        refine J_iconst (v := (0 : Int32)) (pc := 886) dL_refuses_886 (by decide) ?_
                        cases h
                        refine J_wide (k' := 83) (n' := 498) (Nat.le_of_ble_eq_true rfl) (Nat.le_of_ble_eq_true rfl) ?_
                        exact J_zreturn dL_refuses_887 rfl (Or.inl rfl) rfl rfl rfl rfl
                      · replace h := ifp c264 h
                        refine J_aload_n (pc := 757) dL_refuses_757 rfl 0 rfl ?_
                        refine J_iload (pc := 758) dL_refuses_758 4 rfl ?_
                        refine J_iconst (v := (1 : Int32)) (pc := 760) dL_refuses_760 (by decide) ?_
                        obtain ⟨v265, M266, hc267, h⟩ := obind2_e h
                        refine J_callSX (g := mi_L_room) (pc := 761) [.ref 0, .int v246, .int (1 : Int32)] [] ms_L_room w_878 (k_L_room  v246 (1 : Int32) _ hc267) rfl rfl ⟨⟨Nat.le_of_ble_eq_true rfl, Nat.le_of_ble_eq_true rfl⟩, Nat.le_of_ble_eq_true rfl, Nat.le_of_ble_eq_true rfl⟩ (Nat.le_of_ble_eq_true rfl) dL_refuses_761 (Jk_vk 68 408 rfl rfl fun hok268 => ?_)
                        refine J_iload (pc := 764) dL_refuses_764 5 rfl ?_
                        refine J_jp [(0, .ref 0), (4, .int v8), (8, .int v246), (9, .int v248)] 72 432 800 [] h ?_ (fun K269 hK269 h => ?_)
                        · intro M270 h
                          refine J_aload_n (pc := 800) dL_refuses_800 rfl 0 rfl ?_
                          refine J_iload (pc := 801) dL_refuses_801 2 rfl ?_
                          refine J_iconst (v := (0 : Int32)) (pc := 803) dL_refuses_803 (by decide) ?_
                          obtain ⟨v271, M272, hc273, h⟩ := obind2_e h
                          refine J_callSX (g := mi_L_room) (pc := 804) [.ref 0, .int v246, .int (0 : Int32)] [] ms_L_room w_878 (k_L_room  v246 (0 : Int32) _ hc273) rfl rfl ⟨⟨Nat.le_of_ble_eq_true rfl, Nat.le_of_ble_eq_true rfl⟩, Nat.le_of_ble_eq_true rfl, Nat.le_of_ble_eq_true rfl⟩ (Nat.le_of_ble_eq_true rfl) dL_refuses_804 (Jk_vk 73 438 rfl rfl fun hok274 => ?_)
                          refine J_iload (pc := 807) dL_refuses_807 3 rfl ?_
                          refine J_jp [(0, .ref 0), (4, .int v8), (8, .int v246)] 75 450 828 [] h ?_ (fun K275 hK275 h => ?_)
                          · intro M276 h
                            refine J_aload_n (pc := 828) dL_refuses_828 rfl 0 rfl ?_
                            refine J_callV (g := mi_X3_cars) (ci := 3) (pc := 829) [] [] mv_X3_cars w_427 (k_X3_cars  _) rfl (by decide) rfl rfl rfl ⟨⟨Nat.le_of_ble_eq_true rfl, Nat.le_of_ble_eq_true rfl⟩, Nat.le_of_ble_eq_true rfl, Nat.le_of_ble_eq_true rfl⟩ (Nat.le_of_ble_eq_true rfl) dL_refuses_829 (Jk_v rfl rfl fun hok277 => ?_)
                            refine J_bipush (v := (6 : Int32)) (pc := 832) dL_refuses_832 (by decide) ?_
                            refine J_jp [(0, .ref 0), (8, .int v246)] 77 462 851 [] h ?_ (fun K278 hK278 h => ?_)
                            · intro M279 h
                              refine J_aload_n (pc := 851) dL_refuses_851 rfl 0 rfl ?_
                              refine J_iconst (v := (0 : Int32)) (pc := 852) dL_refuses_852 (by decide) ?_
                              refine J_aload_n (pc := 853) dL_refuses_853 rfl 0 rfl ?_
                              refine J_bipush (v := (10 : Int32)) (pc := 854) dL_refuses_854 (by decide) ?_
                              refine J_iload (pc := 856) dL_refuses_856 1 rfl ?_
                              refine J_iconst (v := (0 : Int32)) (pc := 858) dL_refuses_858 (by decide) ?_
                              refine J_iconst (v := (0 : Int32)) (pc := 859) dL_refuses_859 (by decide) ?_
                              obtain ⟨v280, M281, hc282, h⟩ := obind2_e h
                              refine J_callS (g := mi_L_call) (pc := 860) [.ref 0, .int (10 : Int32), .int v246, .int (0 : Int32), .int (0 : Int32)] [.int (0 : Int32), .ref 0] ms_L_call w_431 (k_L_call  (10 : Int32) v246 (0 : Int32) (0 : Int32) _ hc282) rfl rfl ⟨⟨Nat.le_of_ble_eq_true rfl, Nat.le_of_ble_eq_true rfl⟩, Nat.le_of_ble_eq_true rfl, Nat.le_of_ble_eq_true rfl⟩ (Nat.le_of_ble_eq_true rfl) dL_refuses_860 (Jk_vk 79 474 rfl rfl fun hok283 => ?_)
                              refine J_aload_n (pc := 863) dL_refuses_863 rfl 0 rfl ?_
                              refine J_bipush (v := (11 : Int32)) (pc := 864) dL_refuses_864 (by decide) ?_
                              refine J_iload (pc := 866) dL_refuses_866 1 rfl ?_
                              refine J_iconst (v := (0 : Int32)) (pc := 868) dL_refuses_868 (by decide) ?_
                              refine J_iconst (v := (0 : Int32)) (pc := 869) dL_refuses_869 (by decide) ?_
                              obtain ⟨v284, M285, hc286, h⟩ := obind2_e h
                              refine J_callS (g := mi_L_call) (pc := 870) [.ref 0, .int (11 : Int32), .int v246, .int (0 : Int32), .int (0 : Int32)] [.int v280, .int (0 : Int32), .ref 0] ms_L_call w_431 (k_L_call  (11 : Int32) v246 (0 : Int32) (0 : Int32) _ hc286) rfl rfl ⟨⟨Nat.le_of_ble_eq_true rfl, Nat.le_of_ble_eq_true rfl⟩, Nat.le_of_ble_eq_true rfl, Nat.le_of_ble_eq_true rfl⟩ (Nat.le_of_ble_eq_true rfl) dL_refuses_870 (Jk_vk 81 486 rfl rfl fun hok287 => ?_)
                              refine J_iconst (v := (2 : Int32)) (pc := 873) dL_refuses_873 (by decide) ?_
                              obtain ⟨v288, M289, hc290, h⟩ := obind2_e h
                              refine J_callS (g := mi_L_call) (pc := 874) [.ref 0, .int (0 : Int32), .int v280, .int v284, .int (2 : Int32)] [] ms_L_call w_431 (k_L_call  (0 : Int32) v280 v284 (2 : Int32) _ hc290) rfl rfl ⟨⟨Nat.le_of_ble_eq_true rfl, Nat.le_of_ble_eq_true rfl⟩, Nat.le_of_ble_eq_true rfl, Nat.le_of_ble_eq_true rfl⟩ (Nat.le_of_ble_eq_true rfl) dL_refuses_874 (Jk_vk 83 498 rfl rfl fun hok291 => ?_)
                              refine J_ldc (pc := 877) w_575 dL_refuses_877 ?_
                              refine J_icmp_ne (pc := 879) (tgt := 886) dL_refuses_879 (by decide) (fun c292 => ?_) (fun c292 => ?_)
                              · replace h := ifn c292 h
                                refine J_iconst (v := (0 : Int32)) (pc := 886) dL_refuses_886 (by decide) ?_
                                cases h
                                refine J_wide (k' := 83) (n' := 498) (Nat.le_of_ble_eq_true rfl) (Nat.le_of_ble_eq_true rfl) ?_
                                exact J_zreturn dL_refuses_887 rfl (Or.inl rfl) rfl rfl rfl rfl
                              · replace h := ifp c292 h
                                refine J_iconst (v := (1 : Int32)) (pc := 882) dL_refuses_882 (by decide) ?_
                                refine J_goto (pc := 883) (tgt := 887) dL_refuses_883 (by decide) ?_
                                cases h
                                refine J_wide (k' := 83) (n' := 498) (Nat.le_of_ble_eq_true rfl) (Nat.le_of_ble_eq_true rfl) ?_
                                exact J_zreturn dL_refuses_887 rfl (Or.inr rfl) rfl rfl rfl rfl
                            refine J_icmp_lt (pc := 834) (tgt := 851) dL_refuses_834 (by decide) (fun c293 => ?_) (fun c293 => ?_)
                            · replace h := ifp c293 h
                              refine J_sub [0, 2] rfl ?_
                              refine J_wide (k' := 77) (n' := 462) (Nat.le_of_ble_eq_true rfl) (Nat.le_of_ble_eq_true rfl) ?_
                              exact hK278 _ h
                            · replace h := ifn c293 h
                              refine J_aload_n (pc := 837) dL_refuses_837 rfl 0 rfl ?_
                              refine J_iconst (v := (0 : Int32)) (pc := 838) dL_refuses_838 (by decide) ?_
                              refine J_iload (pc := 839) dL_refuses_839 1 rfl ?_
                              refine J_iconst (v := (0 : Int32)) (pc := 841) dL_refuses_841 (by decide) ?_
                              refine J_iconst (v := (2 : Int32)) (pc := 842) dL_refuses_842 (by decide) ?_
                              obtain ⟨v294, M295, hc296, h⟩ := obind2_e h
                              refine J_callS (g := mi_L_call) (pc := 843) [.ref 0, .int (0 : Int32), .int v8, .int (0 : Int32), .int (2 : Int32)] [] ms_L_call w_431 (k_L_call  (0 : Int32) v8 (0 : Int32) (2 : Int32) _ hc296) rfl rfl ⟨⟨Nat.le_of_ble_eq_true rfl, Nat.le_of_ble_eq_true rfl⟩, Nat.le_of_ble_eq_true rfl, Nat.le_of_ble_eq_true rfl⟩ (Nat.le_of_ble_eq_true rfl) dL_refuses_843 (Jk_vk 77 462 rfl rfl fun hok297 => ?_)
                              refine J_ldc (pc := 846) w_575 dL_refuses_846 ?_
                              refine J_icmp_ne (pc := 848) (tgt := 886) dL_refuses_848 (by decide) (fun c298 => ?_) (fun c298 => ?_)
                              · replace h := ifn c298 h
                                refine J_iconst (v := (0 : Int32)) (pc := 886) dL_refuses_886 (by decide) ?_
                                cases h
                                refine J_wide (k' := 83) (n' := 498) (Nat.le_of_ble_eq_true rfl) (Nat.le_of_ble_eq_true rfl) ?_
                                exact J_zreturn dL_refuses_887 rfl (Or.inl rfl) rfl rfl rfl rfl
                              · replace h := ifp c298 h
                                refine J_sub [0, 2] rfl ?_
                                exact hK278 _ h
                          refine J_icmp_ge (pc := 809) (tgt := 828) dL_refuses_809 (by decide) (fun c299 => ?_) (fun c299 => ?_)
                          · replace h := ifp c299 h
                            refine J_sub [0, 1, 2] rfl ?_
                            refine J_wide (k' := 75) (n' := 450) (Nat.le_of_ble_eq_true rfl) (Nat.le_of_ble_eq_true rfl) ?_
                            exact hK275 _ h
                          · replace h := ifn c299 h
                            refine J_aload_n (pc := 812) dL_refuses_812 rfl 0 rfl ?_
                            refine J_iconst (v := (2 : Int32)) (pc := 813) dL_refuses_813 (by decide) ?_
                            refine J_iload (pc := 814) dL_refuses_814 2 rfl ?_
                            refine J_iload (pc := 816) dL_refuses_816 3 rfl ?_
                            refine J_ineg (pc := 818) dL_refuses_818 ?_
                            refine J_iconst (v := (0 : Int32)) (pc := 819) dL_refuses_819 (by decide) ?_
                            obtain ⟨v300, M301, hc302, h⟩ := obind2_e h
                            refine J_callS (g := mi_L_call) (pc := 820) [.ref 0, .int (2 : Int32), .int v246, .int (-v248), .int (0 : Int32)] [] ms_L_call w_431 (k_L_call  (2 : Int32) v246 (-v248) (0 : Int32) _ hc302) rfl rfl ⟨⟨Nat.le_of_ble_eq_true rfl, Nat.le_of_ble_eq_true rfl⟩, Nat.le_of_ble_eq_true rfl, Nat.le_of_ble_eq_true rfl⟩ (Nat.le_of_ble_eq_true rfl) dL_refuses_820 (Jk_vk 75 450 rfl rfl fun hok303 => ?_)
                            refine J_ldc (pc := 823) w_575 dL_refuses_823 ?_
                            refine J_icmp_ne (pc := 825) (tgt := 886) dL_refuses_825 (by decide) (fun c304 => ?_) (fun c304 => ?_)
                            · replace h := ifn c304 h
                              refine J_iconst (v := (0 : Int32)) (pc := 886) dL_refuses_886 (by decide) ?_
                              cases h
                              refine J_wide (k' := 83) (n' := 498) (Nat.le_of_ble_eq_true rfl) (Nat.le_of_ble_eq_true rfl) ?_
                              exact J_zreturn dL_refuses_887 rfl (Or.inl rfl) rfl rfl rfl rfl
                            · replace h := ifp c304 h
                              refine J_sub [0, 1, 2] rfl ?_
                              exact hK275 _ h
                        refine J_icmp_ge (pc := 766) (tgt := 800) dL_refuses_766 (by decide) (fun c305 => ?_) (fun c305 => ?_)
                        · replace h := ifp c305 h
                          refine J_sub [0, 2, 4, 5] rfl ?_
                          refine J_wide (k' := 72) (n' := 432) (Nat.le_of_ble_eq_true rfl) (Nat.le_of_ble_eq_true rfl) ?_
                          exact hK269 _ h
                        · replace h := ifn c305 h
                          refine J_aload_n (pc := 769) dL_refuses_769 rfl 0 rfl ?_
                          refine J_iconst (v := (2 : Int32)) (pc := 770) dL_refuses_770 (by decide) ?_
                          refine J_iload (pc := 771) dL_refuses_771 4 rfl ?_
                          refine J_iload (pc := 773) dL_refuses_773 5 rfl ?_
                          refine J_iconst (v := (0 : Int32)) (pc := 775) dL_refuses_775 (by decide) ?_
                          obtain ⟨v306, M307, hc308, h⟩ := obind2_e h
                          refine J_callS (g := mi_L_call) (pc := 776) [.ref 0, .int (2 : Int32), .int v246, .int v248, .int (0 : Int32)] [] ms_L_call w_431 (k_L_call  (2 : Int32) v246 v248 (0 : Int32) _ hc308) rfl rfl ⟨⟨Nat.le_of_ble_eq_true rfl, Nat.le_of_ble_eq_true rfl⟩, Nat.le_of_ble_eq_true rfl, Nat.le_of_ble_eq_true rfl⟩ (Nat.le_of_ble_eq_true rfl) dL_refuses_776 (Jk_vk 70 420 rfl rfl fun hok309 => ?_)
                          refine J_ldc (pc := 779) w_575 dL_refuses_779 ?_
                          refine J_icmp_ne (pc := 781) (tgt := 886) dL_refuses_781 (by decide) (fun c310 => ?_) (fun c310 => ?_)
                          · replace h := ifn c310 h
                            refine J_iconst (v := (0 : Int32)) (pc := 886) dL_refuses_886 (by decide) ?_
                            cases h
                            refine J_wide (k' := 83) (n' := 498) (Nat.le_of_ble_eq_true rfl) (Nat.le_of_ble_eq_true rfl) ?_
                            exact J_zreturn dL_refuses_887 rfl (Or.inl rfl) rfl rfl rfl rfl
                          · replace h := ifp c310 h
                            refine J_aload_n (pc := 784) dL_refuses_784 rfl 0 rfl ?_
                            refine J_bipush (v := (19 : Int32)) (pc := 785) dL_refuses_785 (by decide) ?_
                            refine J_iload (pc := 787) dL_refuses_787 4 rfl ?_
                            refine J_iload (pc := 789) dL_refuses_789 5 rfl ?_
                            refine J_iconst (v := (0 : Int32)) (pc := 791) dL_refuses_791 (by decide) ?_
                            obtain ⟨v311, M312, hc313, h⟩ := obind2_e h
                            refine J_callS (g := mi_L_call) (pc := 792) [.ref 0, .int (19 : Int32), .int v246, .int v248, .int (0 : Int32)] [] ms_L_call w_431 (k_L_call  (19 : Int32) v246 v248 (0 : Int32) _ hc313) rfl rfl ⟨⟨Nat.le_of_ble_eq_true rfl, Nat.le_of_ble_eq_true rfl⟩, Nat.le_of_ble_eq_true rfl, Nat.le_of_ble_eq_true rfl⟩ (Nat.le_of_ble_eq_true rfl) dL_refuses_792 (Jk_vk 72 432 rfl rfl fun hok314 => ?_)
                            refine J_ldc (pc := 795) w_575 dL_refuses_795 ?_
                            refine J_icmp_ne (pc := 797) (tgt := 886) dL_refuses_797 (by decide) (fun c315 => ?_) (fun c315 => ?_)
                            · replace h := ifn c315 h
                              refine J_iconst (v := (0 : Int32)) (pc := 886) dL_refuses_886 (by decide) ?_
                              cases h
                              refine J_wide (k' := 83) (n' := 498) (Nat.le_of_ble_eq_true rfl) (Nat.le_of_ble_eq_true rfl) ?_
                              exact J_zreturn dL_refuses_887 rfl (Or.inl rfl) rfl rfl rfl rfl
                            · replace h := ifp c315 h
                              refine J_sub [0, 2, 4, 5] rfl ?_
                              exact hK269 _ h
                · replace h := ifp c243 h
                  refine J_sub [3] rfl ?_
                  exact hK239 _ h
            · replace h := hv237
              refine J_if_eq (pc := 442) (tgt := 672) dL_refuses_442 (by decide) (fun c143 => ?_) (fun c143 => ?_)
              · replace h := ifp c143 h
                refine J_iconst (v := (0 : Int32)) (pc := 672) dL_refuses_672 (by decide) ?_
                cases h
                refine J_sub [0, 1, 2] rfl ?_
                refine J_wide (k' := 61) (n' := 366) (Nat.le_of_ble_eq_true rfl) (Nat.le_of_ble_eq_true rfl) ?_
                exact hJ
              · replace h := ifn c143 h
                refine J_iload (pc := 445) dL_refuses_445 5 rfl ?_
                refine J_jp [(0, .ref 0), (1, .int a1), (4, .int v8), (6, .int v131), (7, .int v137)] 42 252 476 [] h ?_ (fun K144 hK144 h => ?_)
                · intro M145 h
                  refine J_aload_n (pc := 476) dL_refuses_476 rfl 0 rfl ?_
                  refine J_iload (pc := 477) dL_refuses_477 3 rfl ?_
                  obtain ⟨v146, M147, hc148, h⟩ := obind2_e h
                  refine J_callSX (g := mi_L_isWall) (pc := 479) [.ref 0, .int v131] [] ms_L_isWall w_871 (k_L_isWall  v131 _ hc148) rfl rfl ⟨⟨Nat.le_of_ble_eq_true rfl, Nat.le_of_ble_eq_true rfl⟩, Nat.le_of_ble_eq_true rfl, Nat.le_of_ble_eq_true rfl⟩ (Nat.le_of_ble_eq_true rfl) dL_refuses_479 (Jk_vk 43 258 rfl rfl fun hok149 => ?_)
                  refine J_jp [(0, .ref 0), (1, .int a1), (4, .int v8), (6, .int v131), (7, .int v137)] 45 270 500 [] h ?_ (fun K150 hK150 h => ?_)
                  · intro M151 h
                    refine J_aload_n (pc := 500) dL_refuses_500 rfl 0 rfl ?_
                    refine J_callV (g := mi_X3_walls) (ci := 3) (pc := 501) [] [] mv_X3_walls w_889 (k_X3_walls  _) rfl (by decide) rfl rfl rfl ⟨⟨Nat.le_of_ble_eq_true rfl, Nat.le_of_ble_eq_true rfl⟩, Nat.le_of_ble_eq_true rfl, Nat.le_of_ble_eq_true rfl⟩ (Nat.le_of_ble_eq_true rfl) dL_refuses_501 (Jk_v rfl rfl fun hok152 => ?_)
                    refine J_iconst (v := (4 : Int32)) (pc := 504) dL_refuses_504 (by decide) ?_
                    refine J_jp [(0, .ref 0), (1, .int a1), (4, .int v8)] 47 282 534 [] h ?_ (fun K153 hK153 h => ?_)
                    · intro M154 h
                      refine J_aload_n (pc := 534) dL_refuses_534 rfl 0 rfl ?_
                      refine J_callV (g := mi_X3_logged) (ci := 3) (pc := 535) [] [] mv_X3_logged w_885 (k_X3_logged  _) rfl (by decide) rfl rfl rfl ⟨⟨Nat.le_of_ble_eq_true rfl, Nat.le_of_ble_eq_true rfl⟩, Nat.le_of_ble_eq_true rfl, Nat.le_of_ble_eq_true rfl⟩ (Nat.le_of_ble_eq_true rfl) dL_refuses_535 (Jk_v rfl rfl fun hok155 => ?_)
                      refine J_jp [(0, .ref 0), (1, .int a1), (4, .int v8)] 49 294 554 [] h ?_ (fun K156 hK156 h => ?_)
                      · intro M157 h
                        refine J_aload_n (pc := 554) dL_refuses_554 rfl 0 rfl ?_
                        refine J_callV (g := mi_X3_cars) (ci := 3) (pc := 555) [] [] mv_X3_cars w_427 (k_X3_cars  _) rfl (by decide) rfl rfl rfl ⟨⟨Nat.le_of_ble_eq_true rfl, Nat.le_of_ble_eq_true rfl⟩, Nat.le_of_ble_eq_true rfl, Nat.le_of_ble_eq_true rfl⟩ (Nat.le_of_ble_eq_true rfl) dL_refuses_555 (Jk_v rfl rfl fun hok158 => ?_)
                        refine J_iconst (v := (1 : Int32)) (pc := 558) dL_refuses_558 (by decide) ?_
                        refine J_jp [(0, .ref 0), (1, .int a1), (4, .int v8)] 51 306 576 [] h ?_ (fun K159 hK159 h => ?_)
                        · intro M160 h
                          refine J_aload_n (pc := 576) dL_refuses_576 rfl 0 rfl ?_
                          refine J_callV (g := mi_X3_cars) (ci := 3) (pc := 577) [] [] mv_X3_cars w_427 (k_X3_cars  _) rfl (by decide) rfl rfl rfl ⟨⟨Nat.le_of_ble_eq_true rfl, Nat.le_of_ble_eq_true rfl⟩, Nat.le_of_ble_eq_true rfl, Nat.le_of_ble_eq_true rfl⟩ (Nat.le_of_ble_eq_true rfl) dL_refuses_577 (Jk_v rfl rfl fun hok161 => ?_)
                          refine J_jp [(0, .ref 0), (1, .int a1), (4, .int v8)] 57 342 626 [] h ?_ (fun K162 hK162 h => ?_)
                          · intro M163 h
                            refine J_aload_n (pc := 626) dL_refuses_626 rfl 0 rfl ?_
                            refine J_callV (g := mi_X3_cars) (ci := 3) (pc := 627) [] [] mv_X3_cars w_427 (k_X3_cars  _) rfl (by decide) rfl rfl rfl ⟨⟨Nat.le_of_ble_eq_true rfl, Nat.le_of_ble_eq_true rfl⟩, Nat.le_of_ble_eq_true rfl, Nat.le_of_ble_eq_true rfl⟩ (Nat.le_of_ble_eq_true rfl) dL_refuses_627 (Jk_v rfl rfl fun hok164 => ?_)
                            refine J_jp [(0, .ref 0), (1, .int a1), (4, .int v8)] 57 342 640 [] h ?_ (fun K165 hK165 h => ?_)
                            · intro M166 h
                              refine J_aload_n (pc := 640) dL_refuses_640 rfl 0 rfl ?_
                              refine J_bipush (v := (17 : Int32)) (pc := 641) dL_refuses_641 (by decide) ?_
                              refine J_iconst (v := (0 : Int32)) (pc := 643) dL_refuses_643 (by decide) ?_
                              refine J_iconst (v := (0 : Int32)) (pc := 644) dL_refuses_644 (by decide) ?_
                              refine J_iconst (v := (0 : Int32)) (pc := 645) dL_refuses_645 (by decide) ?_
                              obtain ⟨v167, M168, hc169, h⟩ := obind2_e h
                              refine J_callS (g := mi_L_call) (pc := 646) [.ref 0, .int (17 : Int32), .int (0 : Int32), .int (0 : Int32), .int (0 : Int32)] [] ms_L_call w_431 (k_L_call  (17 : Int32) (0 : Int32) (0 : Int32) (0 : Int32) _ hc169) rfl rfl ⟨⟨Nat.le_of_ble_eq_true rfl, Nat.le_of_ble_eq_true rfl⟩, Nat.le_of_ble_eq_true rfl, Nat.le_of_ble_eq_true rfl⟩ (Nat.le_of_ble_eq_true rfl) dL_refuses_646 (Jk_vk 59 354 rfl rfl fun hok170 => ?_)
                              refine J_ldc (pc := 649) w_575 dL_refuses_649 ?_
                              refine J_icmp_ne (pc := 651) (tgt := 672) dL_refuses_651 (by decide) (fun c171 => ?_) (fun c171 => ?_)
                              · replace h := ifn c171 h
                                refine J_iconst (v := (0 : Int32)) (pc := 672) dL_refuses_672 (by decide) ?_
                                cases h
                                refine J_wide (k' := 61) (n' := 366) (Nat.le_of_ble_eq_true rfl) (Nat.le_of_ble_eq_true rfl) ?_
                                exact hJ
                              · replace h := ifp c171 h
                                refine J_aload_n (pc := 654) dL_refuses_654 rfl 0 rfl ?_
                                refine J_bipush (v := (18 : Int32)) (pc := 655) dL_refuses_655 (by decide) ?_
                                refine J_iconst (v := (0 : Int32)) (pc := 657) dL_refuses_657 (by decide) ?_
                                refine J_iconst (v := (0 : Int32)) (pc := 658) dL_refuses_658 (by decide) ?_
                                refine J_iconst (v := (0 : Int32)) (pc := 659) dL_refuses_659 (by decide) ?_
                                obtain ⟨v172, M173, hc174, h⟩ := obind2_e h
                                refine J_callS (g := mi_L_call) (pc := 660) [.ref 0, .int (18 : Int32), .int (0 : Int32), .int (0 : Int32), .int (0 : Int32)] [] ms_L_call w_431 (k_L_call  (18 : Int32) (0 : Int32) (0 : Int32) (0 : Int32) _ hc174) rfl rfl ⟨⟨Nat.le_of_ble_eq_true rfl, Nat.le_of_ble_eq_true rfl⟩, Nat.le_of_ble_eq_true rfl, Nat.le_of_ble_eq_true rfl⟩ (Nat.le_of_ble_eq_true rfl) dL_refuses_660 (Jk_vk 61 366 rfl rfl fun hok175 => ?_)
                                refine J_ldc (pc := 663) w_575 dL_refuses_663 ?_
                                refine J_icmp_ne (pc := 665) (tgt := 672) dL_refuses_665 (by decide) (fun c176 => ?_) (fun c176 => ?_)
                                · replace h := ifn c176 h
                                  refine J_iconst (v := (0 : Int32)) (pc := 672) dL_refuses_672 (by decide) ?_
                                  cases h
                                  exact hJ
                                · replace h := ifp c176 h
                                  refine J_iconst (v := (1 : Int32)) (pc := 668) dL_refuses_668 (by decide) ?_
                                  refine J_goto (pc := 669) (tgt := 673) dL_refuses_669 (by decide) ?_
                                  cases h
                                  exact hJ
                            refine J_if_le (pc := 630) (tgt := 640) dL_refuses_630 (by decide) (fun c177 => ?_) (fun c177 => ?_)
                            · replace h := ifp c177 h
                              exact hK165 _ h
                            · replace h := ifn c177 h
                              refine J_aload_n (pc := 633) dL_refuses_633 rfl 0 rfl ?_
                              refine J_callV (g := mi_X3_isOut) (ci := 3) (pc := 634) [] [] mv_X3_isOut w_890 (k_X3_isOut  _) rfl (by decide) rfl rfl rfl ⟨⟨Nat.le_of_ble_eq_true rfl, Nat.le_of_ble_eq_true rfl⟩, Nat.le_of_ble_eq_true rfl, Nat.le_of_ble_eq_true rfl⟩ (Nat.le_of_ble_eq_true rfl) dL_refuses_634 (Jk_v rfl rfl fun hok178 => ?_)
                              refine J_if_eq (pc := 637) (tgt := 668) dL_refuses_637 (by decide) (fun c179 => ?_) (fun c179 => ?_)
                              · replace h := ifp c179 h
                                refine J_iconst (v := (1 : Int32)) (pc := 668) dL_refuses_668 (by decide) ?_
                                refine J_goto (pc := 669) (tgt := 673) dL_refuses_669 (by decide) ?_
                                cases h
                                refine J_wide (k' := 61) (n' := 366) (Nat.le_of_ble_eq_true rfl) (Nat.le_of_ble_eq_true rfl) ?_
                                exact hJ
                              · replace h := ifn c179 h
                                exact hK165 _ h
                          refine J_if_gt (pc := 580) (tgt := 626) dL_refuses_580 (by decide) (fun c180 => ?_) (fun c180 => ?_)
                          · replace h := ifp c180 h
                            refine J_wide (k' := 57) (n' := 342) (Nat.le_of_ble_eq_true rfl) (Nat.le_of_ble_eq_true rfl) ?_
                            exact hK162 _ h
                          · replace h := ifn c180 h
                            refine J_aload_n (pc := 583) dL_refuses_583 rfl 0 rfl ?_
                            refine J_iconst (v := (1 : Int32)) (pc := 584) dL_refuses_584 (by decide) ?_
                            refine J_iconst (v := (0 : Int32)) (pc := 585) dL_refuses_585 (by decide) ?_
                            refine J_iconst (v := (0 : Int32)) (pc := 586) dL_refuses_586 (by decide) ?_
                            refine J_iconst (v := (0 : Int32)) (pc := 587) dL_refuses_587 (by decide) ?_
                            obtain ⟨v181, M182, hc183, h⟩ := obind2_e h
                            refine J_callS (g := mi_L_call) (pc := 588) [.ref 0, .int (1 : Int32), .int (0 : Int32), .int (0 : Int32), .int (0 : Int32)] [] ms_L_call w_431 (k_L_call  (1 : Int32) (0 : Int32) (0 : Int32) (0 : Int32) _ hc183) rfl rfl ⟨⟨Nat.le_of_ble_eq_true rfl, Nat.le_of_ble_eq_true rfl⟩, Nat.le_of_ble_eq_true rfl, Nat.le_of_ble_eq_true rfl⟩ (Nat.le_of_ble_eq_true rfl) dL_refuses_588 (Jk_vk 53 318 rfl rfl fun hok184 => ?_)
                            refine J_ldc (pc := 591) w_575 dL_refuses_591 ?_
                            refine J_icmp_ne (pc := 593) (tgt := 672) dL_refuses_593 (by decide) (fun c185 => ?_) (fun c185 => ?_)
                            · replace h := ifn c185 h
                              refine J_iconst (v := (0 : Int32)) (pc := 672) dL_refuses_672 (by decide) ?_
                              cases h
                              refine J_wide (k' := 61) (n' := 366) (Nat.le_of_ble_eq_true rfl) (Nat.le_of_ble_eq_true rfl) ?_
                              exact hJ
                            · replace h := ifp c185 h
                              refine J_aload_n (pc := 596) dL_refuses_596 rfl 0 rfl ?_
                              refine J_iconst (v := (4 : Int32)) (pc := 597) dL_refuses_597 (by decide) ?_
                              refine J_iconst (v := (0 : Int32)) (pc := 598) dL_refuses_598 (by decide) ?_
                              refine J_iconst (v := (0 : Int32)) (pc := 599) dL_refuses_599 (by decide) ?_
                              refine J_iconst (v := (0 : Int32)) (pc := 600) dL_refuses_600 (by decide) ?_
                              obtain ⟨v186, M187, hc188, h⟩ := obind2_e h
                              refine J_callS (g := mi_L_call) (pc := 601) [.ref 0, .int (4 : Int32), .int (0 : Int32), .int (0 : Int32), .int (0 : Int32)] [] ms_L_call w_431 (k_L_call  (4 : Int32) (0 : Int32) (0 : Int32) (0 : Int32) _ hc188) rfl rfl ⟨⟨Nat.le_of_ble_eq_true rfl, Nat.le_of_ble_eq_true rfl⟩, Nat.le_of_ble_eq_true rfl, Nat.le_of_ble_eq_true rfl⟩ (Nat.le_of_ble_eq_true rfl) dL_refuses_601 (Jk_vk 55 330 rfl rfl fun hok189 => ?_)
                              refine J_ldc (pc := 604) w_575 dL_refuses_604 ?_
                              refine J_icmp_ne (pc := 606) (tgt := 672) dL_refuses_606 (by decide) (fun c190 => ?_) (fun c190 => ?_)
                              · replace h := ifn c190 h
                                refine J_iconst (v := (0 : Int32)) (pc := 672) dL_refuses_672 (by decide) ?_
                                cases h
                                refine J_wide (k' := 61) (n' := 366) (Nat.le_of_ble_eq_true rfl) (Nat.le_of_ble_eq_true rfl) ?_
                                exact hJ
                              · replace h := ifp c190 h
                                refine J_aload_n (pc := 609) dL_refuses_609 rfl 0 rfl ?_
                                refine J_iconst (v := (0 : Int32)) (pc := 610) dL_refuses_610 (by decide) ?_
                                refine J_iconst (v := (5 : Int32)) (pc := 611) dL_refuses_611 (by decide) ?_
                                refine J_iload_n (pc := 612) dL_refuses_612 rfl 1 rfl ?_
                                refine J_iconst (v := (5 : Int32)) (pc := 613) dL_refuses_613 (by decide) ?_
                                refine J_irem (pc := 614) dL_refuses_614 (by decide) ?_
                                refine J_iadd (pc := 615) dL_refuses_615 ?_
                                refine J_iconst (v := (0 : Int32)) (pc := 616) dL_refuses_616 (by decide) ?_
                                refine J_iconst (v := (2 : Int32)) (pc := 617) dL_refuses_617 (by decide) ?_
                                obtain ⟨v191, M192, hc193, h⟩ := obind2_e h
                                refine J_callS (g := mi_L_call) (pc := 618) [.ref 0, .int (0 : Int32), .int ((5 : Int32) + (a1 - a1 / (5 : Int32) * (5 : Int32))), .int (0 : Int32), .int (2 : Int32)] [] ms_L_call w_431 (k_L_call  (0 : Int32) ((5 : Int32) + (a1 - a1 / (5 : Int32) * (5 : Int32))) (0 : Int32) (2 : Int32) _ hc193) rfl rfl ⟨⟨Nat.le_of_ble_eq_true rfl, Nat.le_of_ble_eq_true rfl⟩, Nat.le_of_ble_eq_true rfl, Nat.le_of_ble_eq_true rfl⟩ (Nat.le_of_ble_eq_true rfl) dL_refuses_618 (Jk_vk 57 342 rfl rfl fun hok194 => ?_)
                                refine J_ldc (pc := 621) w_575 dL_refuses_621 ?_
                                refine J_icmp_ne (pc := 623) (tgt := 672) dL_refuses_623 (by decide) (fun c195 => ?_) (fun c195 => ?_)
                                · replace h := ifn c195 h
                                  refine J_iconst (v := (0 : Int32)) (pc := 672) dL_refuses_672 (by decide) ?_
                                  cases h
                                  refine J_wide (k' := 61) (n' := 366) (Nat.le_of_ble_eq_true rfl) (Nat.le_of_ble_eq_true rfl) ?_
                                  exact hJ
                                · replace h := ifp c195 h
                                  exact hK162 _ h
                        refine J_icmp_gt (pc := 559) (tgt := 576) dL_refuses_559 (by decide) (fun c196 => ?_) (fun c196 => ?_)
                        · replace h := ifp c196 h
                          refine J_wide (k' := 51) (n' := 306) (Nat.le_of_ble_eq_true rfl) (Nat.le_of_ble_eq_true rfl) ?_
                          exact hK159 _ h
                        · replace h := ifn c196 h
                          refine J_aload_n (pc := 562) dL_refuses_562 rfl 0 rfl ?_
                          refine J_bipush (v := (20 : Int32)) (pc := 563) dL_refuses_563 (by decide) ?_
                          refine J_iconst (v := (0 : Int32)) (pc := 565) dL_refuses_565 (by decide) ?_
                          refine J_iconst (v := (0 : Int32)) (pc := 566) dL_refuses_566 (by decide) ?_
                          refine J_iconst (v := (0 : Int32)) (pc := 567) dL_refuses_567 (by decide) ?_
                          obtain ⟨v197, M198, hc199, h⟩ := obind2_e h
                          refine J_callS (g := mi_L_call) (pc := 568) [.ref 0, .int (20 : Int32), .int (0 : Int32), .int (0 : Int32), .int (0 : Int32)] [] ms_L_call w_431 (k_L_call  (20 : Int32) (0 : Int32) (0 : Int32) (0 : Int32) _ hc199) rfl rfl ⟨⟨Nat.le_of_ble_eq_true rfl, Nat.le_of_ble_eq_true rfl⟩, Nat.le_of_ble_eq_true rfl, Nat.le_of_ble_eq_true rfl⟩ (Nat.le_of_ble_eq_true rfl) dL_refuses_568 (Jk_vk 51 306 rfl rfl fun hok200 => ?_)
                          refine J_ldc (pc := 571) w_575 dL_refuses_571 ?_
                          refine J_icmp_ne (pc := 573) (tgt := 672) dL_refuses_573 (by decide) (fun c201 => ?_) (fun c201 => ?_)
                          · replace h := ifn c201 h
                            refine J_iconst (v := (0 : Int32)) (pc := 672) dL_refuses_672 (by decide) ?_
                            cases h
                            refine J_wide (k' := 61) (n' := 366) (Nat.le_of_ble_eq_true rfl) (Nat.le_of_ble_eq_true rfl) ?_
                            exact hJ
                          · replace h := ifp c201 h
                            exact hK159 _ h
                      refine J_if_gt (pc := 538) (tgt := 554) dL_refuses_538 (by decide) (fun c202 => ?_) (fun c202 => ?_)
                      · replace h := ifp c202 h
                        refine J_wide (k' := 49) (n' := 294) (Nat.le_of_ble_eq_true rfl) (Nat.le_of_ble_eq_true rfl) ?_
                        exact hK156 _ h
                      · replace h := ifn c202 h
                        refine J_aload_n (pc := 541) dL_refuses_541 rfl 0 rfl ?_
                        refine J_iconst (v := (3 : Int32)) (pc := 542) dL_refuses_542 (by decide) ?_
                        refine J_iconst (v := (0 : Int32)) (pc := 543) dL_refuses_543 (by decide) ?_
                        refine J_iconst (v := (0 : Int32)) (pc := 544) dL_refuses_544 (by decide) ?_
                        refine J_iconst (v := (0 : Int32)) (pc := 545) dL_refuses_545 (by decide) ?_
                        obtain ⟨v203, M204, hc205, h⟩ := obind2_e h
                        refine J_callS (g := mi_L_call) (pc := 546) [.ref 0, .int (3 : Int32), .int (0 : Int32), .int (0 : Int32), .int (0 : Int32)] [] ms_L_call w_431 (k_L_call  (3 : Int32) (0 : Int32) (0 : Int32) (0 : Int32) _ hc205) rfl rfl ⟨⟨Nat.le_of_ble_eq_true rfl, Nat.le_of_ble_eq_true rfl⟩, Nat.le_of_ble_eq_true rfl, Nat.le_of_ble_eq_true rfl⟩ (Nat.le_of_ble_eq_true rfl) dL_refuses_546 (Jk_vk 49 294 rfl rfl fun hok206 => ?_)
                        refine J_ldc (pc := 549) w_575 dL_refuses_549 ?_
                        refine J_icmp_ne (pc := 551) (tgt := 672) dL_refuses_551 (by decide) (fun c207 => ?_) (fun c207 => ?_)
                        · replace h := ifn c207 h
                          refine J_iconst (v := (0 : Int32)) (pc := 672) dL_refuses_672 (by decide) ?_
                          cases h
                          refine J_wide (k' := 61) (n' := 366) (Nat.le_of_ble_eq_true rfl) (Nat.le_of_ble_eq_true rfl) ?_
                          exact hJ
                        · replace h := ifp c207 h
                          exact hK156 _ h
                    refine J_icmp_lt (pc := 505) (tgt := 534) dL_refuses_505 (by decide) (fun c208 => ?_) (fun c208 => ?_)
                    · replace h := ifp c208 h
                      refine J_sub [0, 1, 2] rfl ?_
                      refine J_wide (k' := 47) (n' := 282) (Nat.le_of_ble_eq_true rfl) (Nat.le_of_ble_eq_true rfl) ?_
                      exact hK153 _ h
                    · replace h := ifn c208 h
                      refine J_iload (pc := 508) dL_refuses_508 4 rfl ?_
                      refine J_if_ne (pc := 510) (tgt := 534) dL_refuses_510 (by decide) (fun c209 => ?_) (fun c209 => ?_)
                      · replace h := ifn c209 h
                        refine J_sub [0, 1, 2] rfl ?_
                        refine J_wide (k' := 47) (n' := 282) (Nat.le_of_ble_eq_true rfl) (Nat.le_of_ble_eq_true rfl) ?_
                        exact hK153 _ h
                      · replace h := ifp c209 h
                        refine J_aload_n (pc := 513) dL_refuses_513 rfl 0 rfl ?_
                        refine J_iload (pc := 514) dL_refuses_514 3 rfl ?_
                        obtain ⟨v210, M211, hc212, h⟩ := obind2_e h
                        refine J_callSX (g := mi_L_isWall) (pc := 516) [.ref 0, .int v131] [] ms_L_isWall w_871 (k_L_isWall  v131 _ hc212) rfl rfl ⟨⟨Nat.le_of_ble_eq_true rfl, Nat.le_of_ble_eq_true rfl⟩, Nat.le_of_ble_eq_true rfl, Nat.le_of_ble_eq_true rfl⟩ (Nat.le_of_ble_eq_true rfl) dL_refuses_516 (Jk_vk 46 276 rfl rfl fun hok213 => ?_)
                        refine J_iconst (v := (1 : Int32)) (pc := 519) dL_refuses_519 (by decide) ?_
                        refine J_icmp_eq (pc := 520) (tgt := 534) dL_refuses_520 (by decide) (fun c214 => ?_) (fun c214 => ?_)
                        · replace h := ifp c214 h
                          refine J_sub [0, 1, 2] rfl ?_
                          refine J_wide (k' := 47) (n' := 282) (Nat.le_of_ble_eq_true rfl) (Nat.le_of_ble_eq_true rfl) ?_
                          exact hK153 _ h
                        · replace h := ifn c214 h
                          refine J_aload_n (pc := 523) dL_refuses_523 rfl 0 rfl ?_
                          refine J_iload (pc := 524) dL_refuses_524 3 rfl ?_
                          obtain ⟨v215, M216, hc217, h⟩ := obind2_e h
                          refine J_callSX (g := mi_L_wall) (pc := 526) [.ref 0, .int v131] [] ms_L_wall w_864 (k_L_wall  v131 _ hc217) rfl rfl ⟨⟨Nat.le_of_ble_eq_true rfl, Nat.le_of_ble_eq_true rfl⟩, Nat.le_of_ble_eq_true rfl, Nat.le_of_ble_eq_true rfl⟩ (Nat.le_of_ble_eq_true rfl) dL_refuses_526 (Jk_vk 47 282 rfl rfl fun hok218 => ?_)
                          refine J_ldc (pc := 529) w_575 dL_refuses_529 ?_
                          refine J_icmp_ne (pc := 531) (tgt := 672) dL_refuses_531 (by decide) (fun c219 => ?_) (fun c219 => ?_)
                          · replace h := ifn c219 h
                            refine J_iconst (v := (0 : Int32)) (pc := 672) dL_refuses_672 (by decide) ?_
                            cases h
                            refine J_sub [0, 1, 2] rfl ?_
                            refine J_wide (k' := 61) (n' := 366) (Nat.le_of_ble_eq_true rfl) (Nat.le_of_ble_eq_true rfl) ?_
                            exact hJ
                          · replace h := ifp c219 h
                            refine J_sub [0, 1, 2] rfl ?_
                            exact hK153 _ h
                  refine J_if_eq (pc := 482) (tgt := 500) dL_refuses_482 (by decide) (fun c220 => ?_) (fun c220 => ?_)
                  · replace h := ifp c220 h
                    refine J_wide (k' := 45) (n' := 270) (Nat.le_of_ble_eq_true rfl) (Nat.le_of_ble_eq_true rfl) ?_
                    exact hK150 _ h
                  · replace h := ifn c220 h
                    refine J_aload_n (pc := 485) dL_refuses_485 rfl 0 rfl ?_
                    refine J_bipush (v := (21 : Int32)) (pc := 486) dL_refuses_486 (by decide) ?_
                    refine J_iload (pc := 488) dL_refuses_488 3 rfl ?_
                    refine J_iconst (v := (0 : Int32)) (pc := 490) dL_refuses_490 (by decide) ?_
                    refine J_iconst (v := (0 : Int32)) (pc := 491) dL_refuses_491 (by decide) ?_
                    obtain ⟨v221, M222, hc223, h⟩ := obind2_e h
                    refine J_callS (g := mi_L_call) (pc := 492) [.ref 0, .int (21 : Int32), .int v131, .int (0 : Int32), .int (0 : Int32)] [] ms_L_call w_431 (k_L_call  (21 : Int32) v131 (0 : Int32) (0 : Int32) _ hc223) rfl rfl ⟨⟨Nat.le_of_ble_eq_true rfl, Nat.le_of_ble_eq_true rfl⟩, Nat.le_of_ble_eq_true rfl, Nat.le_of_ble_eq_true rfl⟩ (Nat.le_of_ble_eq_true rfl) dL_refuses_492 (Jk_vk 45 270 rfl rfl fun hok224 => ?_)
                    refine J_ldc (pc := 495) w_575 dL_refuses_495 ?_
                    refine J_icmp_ne (pc := 497) (tgt := 672) dL_refuses_497 (by decide) (fun c225 => ?_) (fun c225 => ?_)
                    · replace h := ifn c225 h
                      refine J_iconst (v := (0 : Int32)) (pc := 672) dL_refuses_672 (by decide) ?_
                      cases h
                      refine J_sub [0, 1, 2] rfl ?_
                      refine J_wide (k' := 61) (n' := 366) (Nat.le_of_ble_eq_true rfl) (Nat.le_of_ble_eq_true rfl) ?_
                      exact hJ
                    · replace h := ifp c225 h
                      exact hK150 _ h
                refine J_if_eq (pc := 447) (tgt := 476) dL_refuses_447 (by decide) (fun c226 => ?_) (fun c226 => ?_)
                · replace h := ifp c226 h
                  refine J_sub [0, 1, 2, 4, 5] rfl ?_
                  refine J_wide (k' := 42) (n' := 252) (Nat.le_of_ble_eq_true rfl) (Nat.le_of_ble_eq_true rfl) ?_
                  exact hK144 _ h
                · replace h := ifn c226 h
                  refine J_aload_n (pc := 450) dL_refuses_450 rfl 0 rfl ?_
                  refine J_iload (pc := 451) dL_refuses_451 4 rfl ?_
                  obtain ⟨v227, M228, hc229, h⟩ := obind2_e h
                  refine J_callSX (g := mi_L_wall) (pc := 453) [.ref 0, .int v131] [] ms_L_wall w_864 (k_L_wall  v131 _ hc229) rfl rfl ⟨⟨Nat.le_of_ble_eq_true rfl, Nat.le_of_ble_eq_true rfl⟩, Nat.le_of_ble_eq_true rfl, Nat.le_of_ble_eq_true rfl⟩ (Nat.le_of_ble_eq_true rfl) dL_refuses_453 (Jk_vk 40 240 rfl rfl fun hok230 => ?_)
                  refine J_ldc (pc := 456) w_575 dL_refuses_456 ?_
                  refine J_icmp_ne (pc := 458) (tgt := 672) dL_refuses_458 (by decide) (fun c231 => ?_) (fun c231 => ?_)
                  · replace h := ifn c231 h
                    refine J_iconst (v := (0 : Int32)) (pc := 672) dL_refuses_672 (by decide) ?_
                    cases h
                    refine J_sub [0, 1, 2] rfl ?_
                    refine J_wide (k' := 61) (n' := 366) (Nat.le_of_ble_eq_true rfl) (Nat.le_of_ble_eq_true rfl) ?_
                    exact hJ
                  · replace h := ifp c231 h
                    refine J_aload_n (pc := 461) dL_refuses_461 rfl 0 rfl ?_
                    refine J_bipush (v := (21 : Int32)) (pc := 462) dL_refuses_462 (by decide) ?_
                    refine J_iload (pc := 464) dL_refuses_464 4 rfl ?_
                    refine J_iconst (v := (0 : Int32)) (pc := 466) dL_refuses_466 (by decide) ?_
                    refine J_iconst (v := (0 : Int32)) (pc := 467) dL_refuses_467 (by decide) ?_
                    obtain ⟨v232, M233, hc234, h⟩ := obind2_e h
                    refine J_callS (g := mi_L_call) (pc := 468) [.ref 0, .int (21 : Int32), .int v131, .int (0 : Int32), .int (0 : Int32)] [] ms_L_call w_431 (k_L_call  (21 : Int32) v131 (0 : Int32) (0 : Int32) _ hc234) rfl rfl ⟨⟨Nat.le_of_ble_eq_true rfl, Nat.le_of_ble_eq_true rfl⟩, Nat.le_of_ble_eq_true rfl, Nat.le_of_ble_eq_true rfl⟩ (Nat.le_of_ble_eq_true rfl) dL_refuses_468 (Jk_vk 42 252 rfl rfl fun hok235 => ?_)
                    refine J_ldc (pc := 471) w_575 dL_refuses_471 ?_
                    refine J_icmp_ne (pc := 473) (tgt := 672) dL_refuses_473 (by decide) (fun c236 => ?_) (fun c236 => ?_)
                    · replace h := ifn c236 h
                      refine J_iconst (v := (0 : Int32)) (pc := 672) dL_refuses_672 (by decide) ?_
                      cases h
                      refine J_sub [0, 1, 2] rfl ?_
                      refine J_wide (k' := 61) (n' := 366) (Nat.le_of_ble_eq_true rfl) (Nat.le_of_ble_eq_true rfl) ?_
                      exact hJ
                    · replace h := ifp c236 h
                      refine J_sub [0, 1, 2, 4, 5] rfl ?_
                      exact hK144 _ h
          · refine J_icmp_eq (pc := 430) (tgt := 437) dL_refuses_430 (by decide) (fun c139 => ?_) (fun c139 => ?_)
            · refine J_iconst (v := (0 : Int32)) (pc := 437) dL_refuses_437 (by decide) ?_
              refine J_topi (y := v137) (by rw [e138, if_pos c139]) ?_
              exact hJ
            · refine J_iconst (v := (1 : Int32)) (pc := 433) dL_refuses_433 (by decide) ?_
              refine J_goto (pc := 434) (tgt := 438) dL_refuses_434 (by decide) ?_
              refine J_topi (y := v137) (by rw [e138, if_neg c139]) ?_
              exact hJ
        · replace h := hv130
          refine J_icmp_ne (pc := 87) (tgt := 410) dL_refuses_87 (by decide) (fun c19 => ?_) (fun c19 => ?_)
          · replace h := ifn c19 h
            refine J_iconst (v := (0 : Int32)) (pc := 410) dL_refuses_410 (by decide) ?_
            cases h
            refine J_sub [0, 1, 4] rfl ?_
            refine J_wide (k' := 37) (n' := 222) (Nat.le_of_ble_eq_true rfl) (Nat.le_of_ble_eq_true rfl) ?_
            exact hJ
          · replace h := ifp c19 h
            refine J_aload_n (pc := 90) dL_refuses_90 rfl 0 rfl ?_
            refine J_iconst (v := (0 : Int32)) (pc := 91) dL_refuses_91 (by decide) ?_
            refine J_iload (pc := 92) dL_refuses_92 4 rfl ?_
            refine J_iconst (v := (0 : Int32)) (pc := 94) dL_refuses_94 (by decide) ?_
            refine J_iload_n (pc := 95) dL_refuses_95 rfl 1 rfl ?_
            refine J_iconst (v := (2 : Int32)) (pc := 96) dL_refuses_96 (by decide) ?_
            refine J_irem (pc := 97) dL_refuses_97 (by decide) ?_
            obtain ⟨v20, e21, h⟩ := bnd_e h
            refine J_join [(0, .ref 0), (1, .int a1), (2, .int v1), (3, .int v5), (4, .int v8)] M14 106 [.int v20, .int (0 : Int32), .int v8, .int (0 : Int32), .ref 0] ?_ (fun hJ => ?_)
            · obtain ⟨v23, M24, hc25, h⟩ := obind2_e h
              refine J_callS (g := mi_L_call) (pc := 106) [.ref 0, .int (0 : Int32), .int v8, .int (0 : Int32), .int v20] [] ms_L_call w_431 (k_L_call  (0 : Int32) v8 (0 : Int32) v20 _ hc25) rfl rfl ⟨⟨Nat.le_of_ble_eq_true rfl, Nat.le_of_ble_eq_true rfl⟩, Nat.le_of_ble_eq_true rfl, Nat.le_of_ble_eq_true rfl⟩ (Nat.le_of_ble_eq_true rfl) dL_refuses_106 (Jk_vk 4 24 rfl rfl fun hok26 => ?_)
              refine J_ldc (pc := 109) w_574 dL_refuses_109 ?_
              refine J_icmp_ne (pc := 111) (tgt := 410) dL_refuses_111 (by decide) (fun c27 => ?_) (fun c27 => ?_)
              · replace h := ifn c27 h
                refine J_iconst (v := (0 : Int32)) (pc := 410) dL_refuses_410 (by decide) ?_
                cases h
                refine J_sub [0, 1, 4] rfl ?_
                refine J_wide (k' := 37) (n' := 222) (Nat.le_of_ble_eq_true rfl) (Nat.le_of_ble_eq_true rfl) ?_
                exact hJ
              · replace h := ifp c27 h
                refine J_aload_n (pc := 114) dL_refuses_114 rfl 0 rfl ?_
                refine J_iconst (v := (0 : Int32)) (pc := 115) dL_refuses_115 (by decide) ?_
                refine J_iload (pc := 116) dL_refuses_116 4 rfl ?_
                refine J_iconst (v := (-1 : Int32)) (pc := 118) dL_refuses_118 (by decide) ?_
                refine J_iload_n (pc := 119) dL_refuses_119 rfl 1 rfl ?_
                refine J_bipush (v := (9 : Int32)) (pc := 120) dL_refuses_120 (by decide) ?_
                refine J_irem (pc := 122) dL_refuses_122 (by decide) ?_
                refine J_isub (pc := 123) dL_refuses_123 ?_
                refine J_iconst (v := (2 : Int32)) (pc := 124) dL_refuses_124 (by decide) ?_
                obtain ⟨v28, M29, hc30, h⟩ := obind2_e h
                refine J_callS (g := mi_L_call) (pc := 125) [.ref 0, .int (0 : Int32), .int v8, .int ((-1 : Int32) - (a1 - a1 / (9 : Int32) * (9 : Int32))), .int (2 : Int32)] [] ms_L_call w_431 (k_L_call  (0 : Int32) v8 ((-1 : Int32) - (a1 - a1 / (9 : Int32) * (9 : Int32))) (2 : Int32) _ hc30) rfl rfl ⟨⟨Nat.le_of_ble_eq_true rfl, Nat.le_of_ble_eq_true rfl⟩, Nat.le_of_ble_eq_true rfl, Nat.le_of_ble_eq_true rfl⟩ (Nat.le_of_ble_eq_true rfl) dL_refuses_125 (Jk_vk 6 36 rfl rfl fun hok31 => ?_)
                refine J_ldc (pc := 128) w_574 dL_refuses_128 ?_
                refine J_icmp_ne (pc := 130) (tgt := 410) dL_refuses_130 (by decide) (fun c32 => ?_) (fun c32 => ?_)
                · replace h := ifn c32 h
                  refine J_iconst (v := (0 : Int32)) (pc := 410) dL_refuses_410 (by decide) ?_
                  cases h
                  refine J_sub [0, 1, 4] rfl ?_
                  refine J_wide (k' := 37) (n' := 222) (Nat.le_of_ble_eq_true rfl) (Nat.le_of_ble_eq_true rfl) ?_
                  exact hJ
                · replace h := ifp c32 h
                  refine J_aload_n (pc := 133) dL_refuses_133 rfl 0 rfl ?_
                  refine J_iconst (v := (0 : Int32)) (pc := 134) dL_refuses_134 (by decide) ?_
                  refine J_iload (pc := 135) dL_refuses_135 4 rfl ?_
                  refine J_iconst (v := (3 : Int32)) (pc := 137) dL_refuses_137 (by decide) ?_
                  refine J_iload_n (pc := 138) dL_refuses_138 rfl 1 rfl ?_
                  refine J_bipush (v := (9 : Int32)) (pc := 139) dL_refuses_139 (by decide) ?_
                  refine J_irem (pc := 141) dL_refuses_141 (by decide) ?_
                  refine J_iadd (pc := 142) dL_refuses_142 ?_
                  refine J_iconst (v := (3 : Int32)) (pc := 143) dL_refuses_143 (by decide) ?_
                  obtain ⟨v33, M34, hc35, h⟩ := obind2_e h
                  refine J_callS (g := mi_L_call) (pc := 144) [.ref 0, .int (0 : Int32), .int v8, .int ((3 : Int32) + (a1 - a1 / (9 : Int32) * (9 : Int32))), .int (3 : Int32)] [] ms_L_call w_431 (k_L_call  (0 : Int32) v8 ((3 : Int32) + (a1 - a1 / (9 : Int32) * (9 : Int32))) (3 : Int32) _ hc35) rfl rfl ⟨⟨Nat.le_of_ble_eq_true rfl, Nat.le_of_ble_eq_true rfl⟩, Nat.le_of_ble_eq_true rfl, Nat.le_of_ble_eq_true rfl⟩ (Nat.le_of_ble_eq_true rfl) dL_refuses_144 (Jk_vk 8 48 rfl rfl fun hok36 => ?_)
                  refine J_ldc (pc := 147) w_574 dL_refuses_147 ?_
                  refine J_icmp_ne (pc := 149) (tgt := 410) dL_refuses_149 (by decide) (fun c37 => ?_) (fun c37 => ?_)
                  · replace h := ifn c37 h
                    refine J_iconst (v := (0 : Int32)) (pc := 410) dL_refuses_410 (by decide) ?_
                    cases h
                    refine J_sub [0, 1, 4] rfl ?_
                    refine J_wide (k' := 37) (n' := 222) (Nat.le_of_ble_eq_true rfl) (Nat.le_of_ble_eq_true rfl) ?_
                    exact hJ
                  · replace h := ifp c37 h
                    refine J_aload_n (pc := 152) dL_refuses_152 rfl 0 rfl ?_
                    refine J_iload_n (pc := 153) dL_refuses_153 rfl 3 rfl ?_
                    obtain ⟨v38, M39, hc40, h⟩ := obind2_e h
                    refine J_callSX (g := mi_L_wall) (pc := 154) [.ref 0, .int v5] [] ms_L_wall w_864 (k_L_wall  v5 _ hc40) rfl rfl ⟨⟨Nat.le_of_ble_eq_true rfl, Nat.le_of_ble_eq_true rfl⟩, Nat.le_of_ble_eq_true rfl, Nat.le_of_ble_eq_true rfl⟩ (Nat.le_of_ble_eq_true rfl) dL_refuses_154 (Jk_vk 9 54 rfl rfl fun hok41 => ?_)
                    refine J_ldc (pc := 157) w_573 dL_refuses_157 ?_
                    refine J_icmp_ne (pc := 159) (tgt := 410) dL_refuses_159 (by decide) (fun c42 => ?_) (fun c42 => ?_)
                    · replace h := ifn c42 h
                      refine J_iconst (v := (0 : Int32)) (pc := 410) dL_refuses_410 (by decide) ?_
                      cases h
                      refine J_sub [0, 1, 4] rfl ?_
                      refine J_wide (k' := 37) (n' := 222) (Nat.le_of_ble_eq_true rfl) (Nat.le_of_ble_eq_true rfl) ?_
                      exact hJ
                    · replace h := ifp c42 h
                      refine J_aload_n (pc := 162) dL_refuses_162 rfl 0 rfl ?_
                      refine J_iconst (v := (2 : Int32)) (pc := 163) dL_refuses_163 (by decide) ?_
                      refine J_iload_n (pc := 164) dL_refuses_164 rfl 2 rfl ?_
                      refine J_iconst (v := (0 : Int32)) (pc := 165) dL_refuses_165 (by decide) ?_
                      refine J_iconst (v := (0 : Int32)) (pc := 166) dL_refuses_166 (by decide) ?_
                      obtain ⟨v43, M44, hc45, h⟩ := obind2_e h
                      refine J_callS (g := mi_L_call) (pc := 167) [.ref 0, .int (2 : Int32), .int v1, .int (0 : Int32), .int (0 : Int32)] [] ms_L_call w_431 (k_L_call  (2 : Int32) v1 (0 : Int32) (0 : Int32) _ hc45) rfl rfl ⟨⟨Nat.le_of_ble_eq_true rfl, Nat.le_of_ble_eq_true rfl⟩, Nat.le_of_ble_eq_true rfl, Nat.le_of_ble_eq_true rfl⟩ (Nat.le_of_ble_eq_true rfl) dL_refuses_167 (Jk_vk 11 66 rfl rfl fun hok46 => ?_)
                      refine J_ldc (pc := 170) w_573 dL_refuses_170 ?_
                      refine J_icmp_ne (pc := 172) (tgt := 410) dL_refuses_172 (by decide) (fun c47 => ?_) (fun c47 => ?_)
                      · replace h := ifn c47 h
                        refine J_iconst (v := (0 : Int32)) (pc := 410) dL_refuses_410 (by decide) ?_
                        cases h
                        refine J_sub [0, 1, 4] rfl ?_
                        refine J_wide (k' := 37) (n' := 222) (Nat.le_of_ble_eq_true rfl) (Nat.le_of_ble_eq_true rfl) ?_
                        exact hJ
                      · replace h := ifp c47 h
                        refine J_aload_n (pc := 175) dL_refuses_175 rfl 0 rfl ?_
                        refine J_bipush (v := (6 : Int32)) (pc := 176) dL_refuses_176 (by decide) ?_
                        refine J_iconst (v := (0 : Int32)) (pc := 178) dL_refuses_178 (by decide) ?_
                        refine J_iconst (v := (0 : Int32)) (pc := 179) dL_refuses_179 (by decide) ?_
                        refine J_iconst (v := (0 : Int32)) (pc := 180) dL_refuses_180 (by decide) ?_
                        obtain ⟨v48, M49, hc50, h⟩ := obind2_e h
                        refine J_callS (g := mi_L_call) (pc := 181) [.ref 0, .int (6 : Int32), .int (0 : Int32), .int (0 : Int32), .int (0 : Int32)] [] ms_L_call w_431 (k_L_call  (6 : Int32) (0 : Int32) (0 : Int32) (0 : Int32) _ hc50) rfl rfl ⟨⟨Nat.le_of_ble_eq_true rfl, Nat.le_of_ble_eq_true rfl⟩, Nat.le_of_ble_eq_true rfl, Nat.le_of_ble_eq_true rfl⟩ (Nat.le_of_ble_eq_true rfl) dL_refuses_181 (Jk_vk 13 78 rfl rfl fun hok51 => ?_)
                        refine J_ldc (pc := 184) w_574 dL_refuses_184 ?_
                        refine J_icmp_ne (pc := 186) (tgt := 410) dL_refuses_186 (by decide) (fun c52 => ?_) (fun c52 => ?_)
                        · replace h := ifn c52 h
                          refine J_iconst (v := (0 : Int32)) (pc := 410) dL_refuses_410 (by decide) ?_
                          cases h
                          refine J_sub [0, 1, 4] rfl ?_
                          refine J_wide (k' := 37) (n' := 222) (Nat.le_of_ble_eq_true rfl) (Nat.le_of_ble_eq_true rfl) ?_
                          exact hJ
                        · replace h := ifp c52 h
                          refine J_aload_n (pc := 189) dL_refuses_189 rfl 0 rfl ?_
                          refine J_bipush (v := (7 : Int32)) (pc := 190) dL_refuses_190 (by decide) ?_
                          refine J_iconst (v := (0 : Int32)) (pc := 192) dL_refuses_192 (by decide) ?_
                          refine J_iconst (v := (0 : Int32)) (pc := 193) dL_refuses_193 (by decide) ?_
                          refine J_iconst (v := (0 : Int32)) (pc := 194) dL_refuses_194 (by decide) ?_
                          obtain ⟨v53, M54, hc55, h⟩ := obind2_e h
                          refine J_callS (g := mi_L_call) (pc := 195) [.ref 0, .int (7 : Int32), .int (0 : Int32), .int (0 : Int32), .int (0 : Int32)] [] ms_L_call w_431 (k_L_call  (7 : Int32) (0 : Int32) (0 : Int32) (0 : Int32) _ hc55) rfl rfl ⟨⟨Nat.le_of_ble_eq_true rfl, Nat.le_of_ble_eq_true rfl⟩, Nat.le_of_ble_eq_true rfl, Nat.le_of_ble_eq_true rfl⟩ (Nat.le_of_ble_eq_true rfl) dL_refuses_195 (Jk_vk 15 90 rfl rfl fun hok56 => ?_)
                          refine J_ldc (pc := 198) w_575 dL_refuses_198 ?_
                          refine J_icmp_ne (pc := 200) (tgt := 410) dL_refuses_200 (by decide) (fun c57 => ?_) (fun c57 => ?_)
                          · replace h := ifn c57 h
                            refine J_iconst (v := (0 : Int32)) (pc := 410) dL_refuses_410 (by decide) ?_
                            cases h
                            refine J_sub [0, 1, 4] rfl ?_
                            refine J_wide (k' := 37) (n' := 222) (Nat.le_of_ble_eq_true rfl) (Nat.le_of_ble_eq_true rfl) ?_
                            exact hJ
                          · replace h := ifp c57 h
                            refine J_aload_n (pc := 203) dL_refuses_203 rfl 0 rfl ?_
                            refine J_iconst (v := (5 : Int32)) (pc := 204) dL_refuses_204 (by decide) ?_
                            refine J_iload_n (pc := 205) dL_refuses_205 rfl 1 rfl ?_
                            refine J_iconst (v := (2 : Int32)) (pc := 206) dL_refuses_206 (by decide) ?_
                            refine J_irem (pc := 207) dL_refuses_207 (by decide) ?_
                            obtain ⟨v58, e59, h⟩ := bnd_e h
                            refine J_join [(0, .ref 0), (1, .int a1), (2, .int v1), (3, .int v5), (4, .int v8)] M54 218 [.int v58, .int (5 : Int32), .ref 0] ?_ (fun hJ => ?_)
                            · refine J_iconst (v := (0 : Int32)) (pc := 218) dL_refuses_218 (by decide) ?_
                              refine J_iconst (v := (0 : Int32)) (pc := 219) dL_refuses_219 (by decide) ?_
                              obtain ⟨v61, M62, hc63, h⟩ := obind2_e h
                              refine J_callS (g := mi_L_call) (pc := 220) [.ref 0, .int (5 : Int32), .int v58, .int (0 : Int32), .int (0 : Int32)] [] ms_L_call w_431 (k_L_call  (5 : Int32) v58 (0 : Int32) (0 : Int32) _ hc63) rfl rfl ⟨⟨Nat.le_of_ble_eq_true rfl, Nat.le_of_ble_eq_true rfl⟩, Nat.le_of_ble_eq_true rfl, Nat.le_of_ble_eq_true rfl⟩ (Nat.le_of_ble_eq_true rfl) dL_refuses_220 (Jk_vk 17 102 rfl rfl fun hok64 => ?_)
                              refine J_ldc (pc := 223) w_574 dL_refuses_223 ?_
                              refine J_icmp_ne (pc := 225) (tgt := 410) dL_refuses_225 (by decide) (fun c65 => ?_) (fun c65 => ?_)
                              · replace h := ifn c65 h
                                refine J_iconst (v := (0 : Int32)) (pc := 410) dL_refuses_410 (by decide) ?_
                                cases h
                                refine J_sub [0, 1, 4] rfl ?_
                                refine J_wide (k' := 37) (n' := 222) (Nat.le_of_ble_eq_true rfl) (Nat.le_of_ble_eq_true rfl) ?_
                                exact hJ
                              · replace h := ifp c65 h
                                refine J_aload_n (pc := 228) dL_refuses_228 rfl 0 rfl ?_
                                refine J_bipush (v := (10 : Int32)) (pc := 229) dL_refuses_229 (by decide) ?_
                                refine J_iload_n (pc := 231) dL_refuses_231 rfl 2 rfl ?_
                                refine J_iconst (v := (0 : Int32)) (pc := 232) dL_refuses_232 (by decide) ?_
                                refine J_iconst (v := (0 : Int32)) (pc := 233) dL_refuses_233 (by decide) ?_
                                obtain ⟨v66, M67, hc68, h⟩ := obind2_e h
                                refine J_callS (g := mi_L_call) (pc := 234) [.ref 0, .int (10 : Int32), .int v1, .int (0 : Int32), .int (0 : Int32)] [] ms_L_call w_431 (k_L_call  (10 : Int32) v1 (0 : Int32) (0 : Int32) _ hc68) rfl rfl ⟨⟨Nat.le_of_ble_eq_true rfl, Nat.le_of_ble_eq_true rfl⟩, Nat.le_of_ble_eq_true rfl, Nat.le_of_ble_eq_true rfl⟩ (Nat.le_of_ble_eq_true rfl) dL_refuses_234 (Jk_vk 19 114 rfl rfl fun hok69 => ?_)
                                refine J_ldc (pc := 237) w_573 dL_refuses_237 ?_
                                refine J_icmp_ne (pc := 239) (tgt := 410) dL_refuses_239 (by decide) (fun c70 => ?_) (fun c70 => ?_)
                                · replace h := ifn c70 h
                                  refine J_iconst (v := (0 : Int32)) (pc := 410) dL_refuses_410 (by decide) ?_
                                  cases h
                                  refine J_sub [0, 1, 4] rfl ?_
                                  refine J_wide (k' := 37) (n' := 222) (Nat.le_of_ble_eq_true rfl) (Nat.le_of_ble_eq_true rfl) ?_
                                  exact hJ
                                · replace h := ifp c70 h
                                  refine J_aload_n (pc := 242) dL_refuses_242 rfl 0 rfl ?_
                                  refine J_bipush (v := (11 : Int32)) (pc := 243) dL_refuses_243 (by decide) ?_
                                  refine J_iload_n (pc := 245) dL_refuses_245 rfl 2 rfl ?_
                                  refine J_iconst (v := (0 : Int32)) (pc := 246) dL_refuses_246 (by decide) ?_
                                  refine J_iconst (v := (0 : Int32)) (pc := 247) dL_refuses_247 (by decide) ?_
                                  obtain ⟨v71, M72, hc73, h⟩ := obind2_e h
                                  refine J_callS (g := mi_L_call) (pc := 248) [.ref 0, .int (11 : Int32), .int v1, .int (0 : Int32), .int (0 : Int32)] [] ms_L_call w_431 (k_L_call  (11 : Int32) v1 (0 : Int32) (0 : Int32) _ hc73) rfl rfl ⟨⟨Nat.le_of_ble_eq_true rfl, Nat.le_of_ble_eq_true rfl⟩, Nat.le_of_ble_eq_true rfl, Nat.le_of_ble_eq_true rfl⟩ (Nat.le_of_ble_eq_true rfl) dL_refuses_248 (Jk_vk 21 126 rfl rfl fun hok74 => ?_)
                                  refine J_ldc (pc := 251) w_573 dL_refuses_251 ?_
                                  refine J_icmp_ne (pc := 253) (tgt := 410) dL_refuses_253 (by decide) (fun c75 => ?_) (fun c75 => ?_)
                                  · replace h := ifn c75 h
                                    refine J_iconst (v := (0 : Int32)) (pc := 410) dL_refuses_410 (by decide) ?_
                                    cases h
                                    refine J_sub [0, 1, 4] rfl ?_
                                    refine J_wide (k' := 37) (n' := 222) (Nat.le_of_ble_eq_true rfl) (Nat.le_of_ble_eq_true rfl) ?_
                                    exact hJ
                                  · replace h := ifp c75 h
                                    refine J_aload_n (pc := 256) dL_refuses_256 rfl 0 rfl ?_
                                    refine J_bipush (v := (12 : Int32)) (pc := 257) dL_refuses_257 (by decide) ?_
                                    refine J_iload_n (pc := 259) dL_refuses_259 rfl 2 rfl ?_
                                    refine J_iconst (v := (0 : Int32)) (pc := 260) dL_refuses_260 (by decide) ?_
                                    refine J_iconst (v := (0 : Int32)) (pc := 261) dL_refuses_261 (by decide) ?_
                                    obtain ⟨v76, M77, hc78, h⟩ := obind2_e h
                                    refine J_callS (g := mi_L_call) (pc := 262) [.ref 0, .int (12 : Int32), .int v1, .int (0 : Int32), .int (0 : Int32)] [] ms_L_call w_431 (k_L_call  (12 : Int32) v1 (0 : Int32) (0 : Int32) _ hc78) rfl rfl ⟨⟨Nat.le_of_ble_eq_true rfl, Nat.le_of_ble_eq_true rfl⟩, Nat.le_of_ble_eq_true rfl, Nat.le_of_ble_eq_true rfl⟩ (Nat.le_of_ble_eq_true rfl) dL_refuses_262 (Jk_vk 23 138 rfl rfl fun hok79 => ?_)
                                    refine J_ldc (pc := 265) w_573 dL_refuses_265 ?_
                                    refine J_icmp_ne (pc := 267) (tgt := 410) dL_refuses_267 (by decide) (fun c80 => ?_) (fun c80 => ?_)
                                    · replace h := ifn c80 h
                                      refine J_iconst (v := (0 : Int32)) (pc := 410) dL_refuses_410 (by decide) ?_
                                      cases h
                                      refine J_sub [0, 1, 4] rfl ?_
                                      refine J_wide (k' := 37) (n' := 222) (Nat.le_of_ble_eq_true rfl) (Nat.le_of_ble_eq_true rfl) ?_
                                      exact hJ
                                    · replace h := ifp c80 h
                                      refine J_aload_n (pc := 270) dL_refuses_270 rfl 0 rfl ?_
                                      refine J_bipush (v := (13 : Int32)) (pc := 271) dL_refuses_271 (by decide) ?_
                                      refine J_iload_n (pc := 273) dL_refuses_273 rfl 3 rfl ?_
                                      refine J_iconst (v := (0 : Int32)) (pc := 274) dL_refuses_274 (by decide) ?_
                                      refine J_iconst (v := (0 : Int32)) (pc := 275) dL_refuses_275 (by decide) ?_
                                      obtain ⟨v81, M82, hc83, h⟩ := obind2_e h
                                      refine J_callS (g := mi_L_call) (pc := 276) [.ref 0, .int (13 : Int32), .int v5, .int (0 : Int32), .int (0 : Int32)] [] ms_L_call w_431 (k_L_call  (13 : Int32) v5 (0 : Int32) (0 : Int32) _ hc83) rfl rfl ⟨⟨Nat.le_of_ble_eq_true rfl, Nat.le_of_ble_eq_true rfl⟩, Nat.le_of_ble_eq_true rfl, Nat.le_of_ble_eq_true rfl⟩ (Nat.le_of_ble_eq_true rfl) dL_refuses_276 (Jk_vk 25 150 rfl rfl fun hok84 => ?_)
                                      refine J_ldc (pc := 279) w_573 dL_refuses_279 ?_
                                      refine J_icmp_ne (pc := 281) (tgt := 410) dL_refuses_281 (by decide) (fun c85 => ?_) (fun c85 => ?_)
                                      · replace h := ifn c85 h
                                        refine J_iconst (v := (0 : Int32)) (pc := 410) dL_refuses_410 (by decide) ?_
                                        cases h
                                        refine J_sub [0, 1, 4] rfl ?_
                                        refine J_wide (k' := 37) (n' := 222) (Nat.le_of_ble_eq_true rfl) (Nat.le_of_ble_eq_true rfl) ?_
                                        exact hJ
                                      · replace h := ifp c85 h
                                        refine J_aload_n (pc := 284) dL_refuses_284 rfl 0 rfl ?_
                                        refine J_iload_n (pc := 285) dL_refuses_285 rfl 3 rfl ?_
                                        obtain ⟨v86, M87, hc88, h⟩ := obind2_e h
                                        refine J_callSX (g := mi_L_isWall) (pc := 286) [.ref 0, .int v5] [] ms_L_isWall w_871 (k_L_isWall  v5 _ hc88) rfl rfl ⟨⟨Nat.le_of_ble_eq_true rfl, Nat.le_of_ble_eq_true rfl⟩, Nat.le_of_ble_eq_true rfl, Nat.le_of_ble_eq_true rfl⟩ (Nat.le_of_ble_eq_true rfl) dL_refuses_286 (Jk_vk 26 156 rfl rfl fun hok89 => ?_)
                                        refine J_ldc (pc := 289) w_573 dL_refuses_289 ?_
                                        refine J_icmp_ne (pc := 291) (tgt := 410) dL_refuses_291 (by decide) (fun c90 => ?_) (fun c90 => ?_)
                                        · replace h := ifn c90 h
                                          refine J_iconst (v := (0 : Int32)) (pc := 410) dL_refuses_410 (by decide) ?_
                                          cases h
                                          refine J_sub [0, 1, 4] rfl ?_
                                          refine J_wide (k' := 37) (n' := 222) (Nat.le_of_ble_eq_true rfl) (Nat.le_of_ble_eq_true rfl) ?_
                                          exact hJ
                                        · replace h := ifp c90 h
                                          refine J_aload_n (pc := 294) dL_refuses_294 rfl 0 rfl ?_
                                          refine J_iload_n (pc := 295) dL_refuses_295 rfl 2 rfl ?_
                                          refine J_iload_n (pc := 296) dL_refuses_296 rfl 1 rfl ?_
                                          refine J_iconst (v := (2 : Int32)) (pc := 297) dL_refuses_297 (by decide) ?_
                                          refine J_irem (pc := 298) dL_refuses_298 (by decide) ?_
                                          obtain ⟨v91, e92, h⟩ := bnd_e h
                                          have hb94 : isB v91 := by rw [e92]; repeat (first | exact Or.inl rfl | exact Or.inr rfl | assumption | exact okB_b (by assumption) | apply isB_ite)
                                          refine J_join [(0, .ref 0), (1, .int a1), (2, .int v1), (3, .int v5), (4, .int v8)] M87 307 [.int v91, .int v1, .ref 0] ?_ (fun hJ => ?_)
                                          · obtain ⟨v95, M96, hc97, h⟩ := obind2_e h
                                            refine J_callSX (g := mi_L_room) (pc := 307) [.ref 0, .int v1, .int v91] [] ms_L_room w_878 (k_L_room  v1 v91 _ hc97) rfl rfl ⟨⟨Nat.le_of_ble_eq_true rfl, Nat.le_of_ble_eq_true rfl⟩, Nat.le_of_ble_eq_true rfl, Nat.le_of_ble_eq_true rfl⟩ (Nat.le_of_ble_eq_true rfl) dL_refuses_307 (Jk_vk 27 162 rfl rfl fun hok98 => ?_)
                                            refine J_ldc (pc := 310) w_573 dL_refuses_310 ?_
                                            refine J_icmp_ne (pc := 312) (tgt := 410) dL_refuses_312 (by decide) (fun c99 => ?_) (fun c99 => ?_)
                                            · replace h := ifn c99 h
                                              refine J_iconst (v := (0 : Int32)) (pc := 410) dL_refuses_410 (by decide) ?_
                                              cases h
                                              refine J_sub [0, 1, 4] rfl ?_
                                              refine J_wide (k' := 37) (n' := 222) (Nat.le_of_ble_eq_true rfl) (Nat.le_of_ble_eq_true rfl) ?_
                                              exact hJ
                                            · replace h := ifp c99 h
                                              refine J_aload_n (pc := 315) dL_refuses_315 rfl 0 rfl ?_
                                              refine J_bipush (v := (14 : Int32)) (pc := 316) dL_refuses_316 (by decide) ?_
                                              refine J_iload_n (pc := 318) dL_refuses_318 rfl 1 rfl ?_
                                              refine J_iconst (v := (2 : Int32)) (pc := 319) dL_refuses_319 (by decide) ?_
                                              refine J_irem (pc := 320) dL_refuses_320 (by decide) ?_
                                              obtain ⟨v100, e101, h⟩ := bnd_e h
                                              refine J_join [(0, .ref 0), (1, .int a1), (2, .int v1), (3, .int v5), (4, .int v8)] M96 332 [.int v100, .int (14 : Int32), .ref 0] ?_ (fun hJ => ?_)
                                              · refine J_iconst (v := (0 : Int32)) (pc := 332) dL_refuses_332 (by decide) ?_
                                                refine J_iconst (v := (0 : Int32)) (pc := 333) dL_refuses_333 (by decide) ?_
                                                obtain ⟨v104, M105, hc106, h⟩ := obind2_e h
                                                refine J_callS (g := mi_L_call) (pc := 334) [.ref 0, .int (14 : Int32), .int v100, .int (0 : Int32), .int (0 : Int32)] [] ms_L_call w_431 (k_L_call  (14 : Int32) v100 (0 : Int32) (0 : Int32) _ hc106) rfl rfl ⟨⟨Nat.le_of_ble_eq_true rfl, Nat.le_of_ble_eq_true rfl⟩, Nat.le_of_ble_eq_true rfl, Nat.le_of_ble_eq_true rfl⟩ (Nat.le_of_ble_eq_true rfl) dL_refuses_334 (Jk_vk 29 174 rfl rfl fun hok107 => ?_)
                                                refine J_ldc (pc := 337) w_573 dL_refuses_337 ?_
                                                refine J_icmp_ne (pc := 339) (tgt := 410) dL_refuses_339 (by decide) (fun c108 => ?_) (fun c108 => ?_)
                                                · replace h := ifn c108 h
                                                  refine J_iconst (v := (0 : Int32)) (pc := 410) dL_refuses_410 (by decide) ?_
                                                  cases h
                                                  refine J_sub [0, 1, 4] rfl ?_
                                                  refine J_wide (k' := 37) (n' := 222) (Nat.le_of_ble_eq_true rfl) (Nat.le_of_ble_eq_true rfl) ?_
                                                  exact hJ
                                                · replace h := ifp c108 h
                                                  refine J_aload_n (pc := 342) dL_refuses_342 rfl 0 rfl ?_
                                                  refine J_bipush (v := (15 : Int32)) (pc := 343) dL_refuses_343 (by decide) ?_
                                                  refine J_aload_n (pc := 345) dL_refuses_345 rfl 0 rfl ?_
                                                  refine J_callV (g := mi_X3_logged) (ci := 3) (pc := 346) [] [.int (15 : Int32), .ref 0] mv_X3_logged w_885 (k_X3_logged  _) rfl (by decide) rfl rfl rfl ⟨⟨Nat.le_of_ble_eq_true rfl, Nat.le_of_ble_eq_true rfl⟩, Nat.le_of_ble_eq_true rfl, Nat.le_of_ble_eq_true rfl⟩ (Nat.le_of_ble_eq_true rfl) dL_refuses_346 (Jk_v rfl rfl fun hok109 => ?_)
                                                  refine J_iload_n (pc := 349) dL_refuses_349 rfl 1 rfl ?_
                                                  refine J_bipush (v := (9 : Int32)) (pc := 350) dL_refuses_350 (by decide) ?_
                                                  refine J_irem (pc := 352) dL_refuses_352 (by decide) ?_
                                                  refine J_iadd (pc := 353) dL_refuses_353 ?_
                                                  refine J_iconst (v := (0 : Int32)) (pc := 354) dL_refuses_354 (by decide) ?_
                                                  refine J_iconst (v := (0 : Int32)) (pc := 355) dL_refuses_355 (by decide) ?_
                                                  obtain ⟨v110, M111, hc112, h⟩ := obind2_e h
                                                  refine J_callS (g := mi_L_call) (pc := 356) [.ref 0, .int (15 : Int32), .int ((F_X3_logged M105) + (a1 - a1 / (9 : Int32) * (9 : Int32))), .int (0 : Int32), .int (0 : Int32)] [] ms_L_call w_431 (k_L_call  (15 : Int32) ((F_X3_logged M105) + (a1 - a1 / (9 : Int32) * (9 : Int32))) (0 : Int32) (0 : Int32) _ hc112) rfl rfl ⟨⟨Nat.le_of_ble_eq_true rfl, Nat.le_of_ble_eq_true rfl⟩, Nat.le_of_ble_eq_true rfl, Nat.le_of_ble_eq_true rfl⟩ (Nat.le_of_ble_eq_true rfl) dL_refuses_356 (Jk_vk 31 186 rfl rfl fun hok113 => ?_)
                                                  refine J_ldc (pc := 359) w_573 dL_refuses_359 ?_
                                                  refine J_icmp_ne (pc := 361) (tgt := 410) dL_refuses_361 (by decide) (fun c114 => ?_) (fun c114 => ?_)
                                                  · replace h := ifn c114 h
                                                    refine J_iconst (v := (0 : Int32)) (pc := 410) dL_refuses_410 (by decide) ?_
                                                    cases h
                                                    refine J_sub [0, 1, 4] rfl ?_
                                                    refine J_wide (k' := 37) (n' := 222) (Nat.le_of_ble_eq_true rfl) (Nat.le_of_ble_eq_true rfl) ?_
                                                    exact hJ
                                                  · replace h := ifp c114 h
                                                    refine J_aload_n (pc := 364) dL_refuses_364 rfl 0 rfl ?_
                                                    refine J_bipush (v := (16 : Int32)) (pc := 365) dL_refuses_365 (by decide) ?_
                                                    refine J_iload_n (pc := 367) dL_refuses_367 rfl 2 rfl ?_
                                                    refine J_iconst (v := (0 : Int32)) (pc := 368) dL_refuses_368 (by decide) ?_
                                                    refine J_iconst (v := (0 : Int32)) (pc := 369) dL_refuses_369 (by decide) ?_
                                                    obtain ⟨v115, M116, hc117, h⟩ := obind2_e h
                                                    refine J_callS (g := mi_L_call) (pc := 370) [.ref 0, .int (16 : Int32), .int v1, .int (0 : Int32), .int (0 : Int32)] [] ms_L_call w_431 (k_L_call  (16 : Int32) v1 (0 : Int32) (0 : Int32) _ hc117) rfl rfl ⟨⟨Nat.le_of_ble_eq_true rfl, Nat.le_of_ble_eq_true rfl⟩, Nat.le_of_ble_eq_true rfl, Nat.le_of_ble_eq_true rfl⟩ (Nat.le_of_ble_eq_true rfl) dL_refuses_370 (Jk_vk 33 198 rfl rfl fun hok118 => ?_)
                                                    refine J_ldc (pc := 373) w_573 dL_refuses_373 ?_
                                                    refine J_icmp_ne (pc := 375) (tgt := 410) dL_refuses_375 (by decide) (fun c119 => ?_) (fun c119 => ?_)
                                                    · replace h := ifn c119 h
                                                      refine J_iconst (v := (0 : Int32)) (pc := 410) dL_refuses_410 (by decide) ?_
                                                      cases h
                                                      refine J_sub [0, 1, 4] rfl ?_
                                                      refine J_wide (k' := 37) (n' := 222) (Nat.le_of_ble_eq_true rfl) (Nat.le_of_ble_eq_true rfl) ?_
                                                      exact hJ
                                                    · replace h := ifp c119 h
                                                      refine J_aload_n (pc := 378) dL_refuses_378 rfl 0 rfl ?_
                                                      refine J_bipush (v := (19 : Int32)) (pc := 379) dL_refuses_379 (by decide) ?_
                                                      refine J_iload_n (pc := 381) dL_refuses_381 rfl 2 rfl ?_
                                                      refine J_iconst (v := (0 : Int32)) (pc := 382) dL_refuses_382 (by decide) ?_
                                                      refine J_iconst (v := (0 : Int32)) (pc := 383) dL_refuses_383 (by decide) ?_
                                                      obtain ⟨v120, M121, hc122, h⟩ := obind2_e h
                                                      refine J_callS (g := mi_L_call) (pc := 384) [.ref 0, .int (19 : Int32), .int v1, .int (0 : Int32), .int (0 : Int32)] [] ms_L_call w_431 (k_L_call  (19 : Int32) v1 (0 : Int32) (0 : Int32) _ hc122) rfl rfl ⟨⟨Nat.le_of_ble_eq_true rfl, Nat.le_of_ble_eq_true rfl⟩, Nat.le_of_ble_eq_true rfl, Nat.le_of_ble_eq_true rfl⟩ (Nat.le_of_ble_eq_true rfl) dL_refuses_384 (Jk_vk 35 210 rfl rfl fun hok123 => ?_)
                                                      refine J_ldc (pc := 387) w_573 dL_refuses_387 ?_
                                                      refine J_icmp_ne (pc := 389) (tgt := 410) dL_refuses_389 (by decide) (fun c124 => ?_) (fun c124 => ?_)
                                                      · replace h := ifn c124 h
                                                        refine J_iconst (v := (0 : Int32)) (pc := 410) dL_refuses_410 (by decide) ?_
                                                        cases h
                                                        refine J_sub [0, 1, 4] rfl ?_
                                                        refine J_wide (k' := 37) (n' := 222) (Nat.le_of_ble_eq_true rfl) (Nat.le_of_ble_eq_true rfl) ?_
                                                        exact hJ
                                                      · replace h := ifp c124 h
                                                        refine J_aload_n (pc := 392) dL_refuses_392 rfl 0 rfl ?_
                                                        refine J_bipush (v := (21 : Int32)) (pc := 393) dL_refuses_393 (by decide) ?_
                                                        refine J_iload_n (pc := 395) dL_refuses_395 rfl 3 rfl ?_
                                                        refine J_iconst (v := (0 : Int32)) (pc := 396) dL_refuses_396 (by decide) ?_
                                                        refine J_iconst (v := (0 : Int32)) (pc := 397) dL_refuses_397 (by decide) ?_
                                                        obtain ⟨v125, M126, hc127, h⟩ := obind2_e h
                                                        refine J_callS (g := mi_L_call) (pc := 398) [.ref 0, .int (21 : Int32), .int v5, .int (0 : Int32), .int (0 : Int32)] [] ms_L_call w_431 (k_L_call  (21 : Int32) v5 (0 : Int32) (0 : Int32) _ hc127) rfl rfl ⟨⟨Nat.le_of_ble_eq_true rfl, Nat.le_of_ble_eq_true rfl⟩, Nat.le_of_ble_eq_true rfl, Nat.le_of_ble_eq_true rfl⟩ (Nat.le_of_ble_eq_true rfl) dL_refuses_398 (Jk_vk 37 222 rfl rfl fun hok128 => ?_)
                                                        refine J_ldc (pc := 401) w_573 dL_refuses_401 ?_
                                                        refine J_icmp_ne (pc := 403) (tgt := 410) dL_refuses_403 (by decide) (fun c129 => ?_) (fun c129 => ?_)
                                                        · replace h := ifn c129 h
                                                          refine J_iconst (v := (0 : Int32)) (pc := 410) dL_refuses_410 (by decide) ?_
                                                          cases h
                                                          refine J_sub [0, 1, 4] rfl ?_
                                                          exact hJ
                                                        · replace h := ifp c129 h
                                                          refine J_iconst (v := (1 : Int32)) (pc := 406) dL_refuses_406 (by decide) ?_
                                                          refine J_goto (pc := 407) (tgt := 411) dL_refuses_407 (by decide) ?_
                                                          cases h
                                                          refine J_sub [0, 1, 4] rfl ?_
                                                          exact hJ
                                              · refine J_if_ne (pc := 321) (tgt := 328) dL_refuses_321 (by decide) (fun c102 => ?_) (fun c102 => ?_)
                                                · refine J_aload_n (pc := 328) dL_refuses_328 rfl 0 rfl ?_
                                                  refine J_callV (g := mi_X3_logged) (ci := 3) (pc := 329) [] [.int (14 : Int32), .ref 0] mv_X3_logged w_885 (k_X3_logged  _) rfl (by decide) rfl rfl rfl ⟨⟨Nat.le_of_ble_eq_true rfl, Nat.le_of_ble_eq_true rfl⟩, Nat.le_of_ble_eq_true rfl, Nat.le_of_ble_eq_true rfl⟩ (Nat.le_of_ble_eq_true rfl) dL_refuses_329 (Jk_v rfl rfl fun hok103 => ?_)
                                                  refine J_topi (y := v100) (by rw [e101, if_neg c102]) ?_
                                                  exact hJ
                                                · refine J_iconst (v := (-1 : Int32)) (pc := 324) dL_refuses_324 (by decide) ?_
                                                  refine J_goto (pc := 325) (tgt := 332) dL_refuses_325 (by decide) ?_
                                                  refine J_topi (y := v100) (by rw [e101, if_pos c102]) ?_
                                                  exact hJ
                                          · refine J_if_ne (pc := 299) (tgt := 306) dL_refuses_299 (by decide) (fun c93 => ?_) (fun c93 => ?_)
                                            · refine J_iconst (v := (0 : Int32)) (pc := 306) dL_refuses_306 (by decide) ?_
                                              refine J_topi (y := v91) (by rw [e92, if_neg c93]) ?_
                                              exact hJ
                                            · refine J_iconst (v := (1 : Int32)) (pc := 302) dL_refuses_302 (by decide) ?_
                                              refine J_goto (pc := 303) (tgt := 307) dL_refuses_303 (by decide) ?_
                                              refine J_topi (y := v91) (by rw [e92, if_pos c93]) ?_
                                              exact hJ
                            · refine J_if_ne (pc := 208) (tgt := 216) dL_refuses_208 (by decide) (fun c60 => ?_) (fun c60 => ?_)
                              · refine J_bipush (v := (127 : Int32)) (pc := 216) dL_refuses_216 (by decide) ?_
                                refine J_topi (y := v58) (by rw [e59, if_neg c60]) ?_
                                exact hJ
                              · refine J_bipush (v := (32 : Int32)) (pc := 211) dL_refuses_211 (by decide) ?_
                                refine J_goto (pc := 213) (tgt := 218) dL_refuses_213 (by decide) ?_
                                refine J_topi (y := v58) (by rw [e59, if_pos c60]) ?_
                                exact hJ
            · refine J_if_ne (pc := 98) (tgt := 105) dL_refuses_98 (by decide) (fun c22 => ?_) (fun c22 => ?_)
              · refine J_iconst (v := (4 : Int32)) (pc := 105) dL_refuses_105 (by decide) ?_
                refine J_topi (y := v20) (by rw [e21, if_neg c22]) ?_
                exact hJ
              · refine J_iconst (v := (1 : Int32)) (pc := 101) dL_refuses_101 (by decide) ?_
                refine J_goto (pc := 102) (tgt := 106) dL_refuses_102 (by decide) ?_
                refine J_topi (y := v20) (by rw [e21, if_pos c22]) ?_
                exact hJ
      · refine J_if_ne (pc := 59) (tgt := 71) dL_refuses_59 (by decide) (fun c12 => ?_) (fun c12 => ?_)
        · refine J_bipush (v := (10 : Int32)) (pc := 71) dL_refuses_71 (by decide) ?_
          refine J_iload_n (pc := 73) dL_refuses_73 rfl 1 rfl ?_
          refine J_bipush (v := (9 : Int32)) (pc := 74) dL_refuses_74 (by decide) ?_
          refine J_irem (pc := 76) dL_refuses_76 (by decide) ?_
          refine J_iadd (pc := 77) dL_refuses_77 ?_
          refine J_topi (y := v10) (by rw [e11, if_neg c12]) ?_
          exact hJ
        · refine J_iconst (v := (-1 : Int32)) (pc := 62) dL_refuses_62 (by decide) ?_
          refine J_iload_n (pc := 63) dL_refuses_63 rfl 1 rfl ?_
          refine J_bipush (v := (9 : Int32)) (pc := 64) dL_refuses_64 (by decide) ?_
          refine J_irem (pc := 66) dL_refuses_66 (by decide) ?_
          refine J_isub (pc := 67) dL_refuses_67 ?_
          refine J_goto (pc := 68) (tgt := 78) dL_refuses_68 (by decide) ?_
          refine J_topi (y := v10) (by rw [e11, if_pos c12]) ?_
          exact hJ
    · refine J_if_ne (pc := 28) (tgt := 40) dL_refuses_28 (by decide) (fun c7 => ?_) (fun c7 => ?_)
      · refine J_bipush (v := (25 : Int32)) (pc := 40) dL_refuses_40 (by decide) ?_
        refine J_iload_n (pc := 42) dL_refuses_42 rfl 1 rfl ?_
        refine J_bipush (v := (99 : Int32)) (pc := 43) dL_refuses_43 (by decide) ?_
        refine J_irem (pc := 45) dL_refuses_45 (by decide) ?_
        refine J_iadd (pc := 46) dL_refuses_46 ?_
        refine J_topi (y := v5) (by rw [e6, if_neg c7]) ?_
        exact hJ
      · refine J_iconst (v := (-1 : Int32)) (pc := 31) dL_refuses_31 (by decide) ?_
        refine J_iload_n (pc := 32) dL_refuses_32 rfl 1 rfl ?_
        refine J_bipush (v := (99 : Int32)) (pc := 33) dL_refuses_33 (by decide) ?_
        refine J_irem (pc := 35) dL_refuses_35 (by decide) ?_
        refine J_isub (pc := 36) dL_refuses_36 ?_
        refine J_goto (pc := 37) (tgt := 47) dL_refuses_37 (by decide) ?_
        refine J_topi (y := v5) (by rw [e6, if_pos c7]) ?_
        exact hJ
  · refine J_if_ne (pc := 3) (tgt := 15) dL_refuses_3 (by decide) (fun c3 => ?_) (fun c3 => ?_)
    · refine J_aload_n (pc := 15) dL_refuses_15 rfl 0 rfl ?_
      refine J_callV (g := mi_X3_cars) (ci := 3) (pc := 16) [] [] mv_X3_cars w_427 (k_X3_cars  _) rfl (by decide) rfl rfl rfl ⟨⟨Nat.le_of_ble_eq_true rfl, Nat.le_of_ble_eq_true rfl⟩, Nat.le_of_ble_eq_true rfl, Nat.le_of_ble_eq_true rfl⟩ (Nat.le_of_ble_eq_true rfl) dL_refuses_16 (Jk_v rfl rfl fun hok4 => ?_)
      refine J_iload_n (pc := 19) dL_refuses_19 rfl 1 rfl ?_
      refine J_bipush (v := (9 : Int32)) (pc := 20) dL_refuses_20 (by decide) ?_
      refine J_irem (pc := 22) dL_refuses_22 (by decide) ?_
      refine J_iadd (pc := 23) dL_refuses_23 ?_
      refine J_topi (y := v1) (by rw [e2, if_neg c3]) ?_
      exact hJ
    · refine J_iconst (v := (-1 : Int32)) (pc := 6) dL_refuses_6 (by decide) ?_
      refine J_iload_n (pc := 7) dL_refuses_7 rfl 1 rfl ?_
      refine J_bipush (v := (99 : Int32)) (pc := 8) dL_refuses_8 (by decide) ?_
      refine J_irem (pc := 10) dL_refuses_10 (by decide) ?_
      refine J_isub (pc := 11) dL_refuses_11 ?_
      refine J_goto (pc := 12) (tgt := 24) dL_refuses_12 (by decide) ?_
      refine J_topi (y := v1) (by rw [e2, if_pos c3]) ?_
      exact hJ

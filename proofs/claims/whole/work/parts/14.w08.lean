/-! ===== walks of the methods, 8 ===== -/
set_option maxHeartbeats 4000000 in
set_option maxRecDepth 100000 in
theorem k_X3_nextChange {E : En} (M : Wd) {r : Int32 ⊕ Nat} {M' : Wd} (h : F_X3_nextChange M = some (r, M')) : Con E mi_X3_nextChange [.ref 0] M (ocI r) M' := by
  unfold F_X3_nextChange at h
  refine Con.of (by decide) rfl (Nat.le_of_ble_eq_true rfl) (fun κ => ?_)
  show J κ E mi_X3_nextChange _ 0 0 [(0, .ref 0)] M 0 []
  refine J_aload_n (pc := 0) dX3_nextChange_0 rfl 0 rfl ?_
  obtain ⟨v1, M2, hc3, h⟩ := obind2_e h
  refine J_callV (g := mi_X3_hasNextSlide) (ci := 3) (pc := 1) [] [] mv_X3_hasNextSlide w_982 (k_X3_hasNextSlide _ hc3) rfl (by decide) rfl rfl rfl ⟨⟨Nat.le_of_ble_eq_true rfl, Nat.le_of_ble_eq_true rfl⟩, Nat.le_of_ble_eq_true rfl, Nat.le_of_ble_eq_true rfl⟩ (Nat.le_of_ble_eq_true rfl) dX3_nextChange_1 (Jk_v rfl rfl fun hok4 => ?_)
  refine J_if_ne (pc := 4) (tgt := 17) dX3_nextChange_4 (by decide) (fun c5 => ?_) (fun c5 => ?_)
  · replace h := ifn c5 h
    refine J_aload_n (pc := 17) dX3_nextChange_17 rfl 0 rfl ?_
    refine J_LS [(0, .ref 0)] [.ref 0] rfl rfl ?_
    refine get_0_3 (pc := 18) w_219 dX3_nextChange_18 ?_
    refine get_44_11 (pc := 21) w_176 dX3_nextChange_21 ?_
    cases h
    refine J_wide (k' := 1) (n' := 6) (Nat.le_of_ble_eq_true rfl) (Nat.le_of_ble_eq_true rfl) ?_
    exact J_ireturn dX3_nextChange_24 rfl rfl rfl rfl rfl
  · replace h := ifp c5 h
    cases h
    exact J_throwS (pc := 7) (text := "there is no next slide") rfl rfl rfl (by decide +kernel) w_716 w_90 (by decide) ats_RX3_66 dX3_nextChange_7 dX3_nextChange_10 dX3_nextChange_11 dX3_nextChange_13 dX3_nextChange_16 ⟨⟨Nat.le_of_ble_eq_true rfl, Nat.le_of_ble_eq_true rfl⟩, Nat.le_of_ble_eq_true rfl, Nat.le_of_ble_eq_true rfl⟩
set_option maxHeartbeats 4000000 in
set_option maxRecDepth 100000 in
theorem k_X3_reachable {E : En} (M : Wd) {r : Int32} {M' : Wd} (h : F_X3_reachable M = some (r, M')) : Con E mi_X3_reachable [.ref 0] M (.inl (some (.int r))) M' := by
  unfold F_X3_reachable at h
  refine Con.of (by decide) rfl (Nat.le_of_ble_eq_true rfl) (fun κ => ?_)
  show J κ E mi_X3_reachable _ 0 0 [(0, .ref 0)] M 0 []
  refine J_aload_n (pc := 0) dX3_reachable_0 rfl 0 rfl ?_
  obtain ⟨M1, hc2, h⟩ := obind_e h
  refine J_callV (g := mi_X3_exploreNow) (ci := 3) (pc := 1) [] [] mv_X3_exploreNow w_396 (k_X3_exploreNow _ hc2) rfl (by decide) rfl rfl rfl ⟨⟨Nat.le_of_ble_eq_true rfl, Nat.le_of_ble_eq_true rfl⟩, Nat.le_of_ble_eq_true rfl, Nat.le_of_ble_eq_true rfl⟩ (Nat.le_of_ble_eq_true rfl) dX3_reachable_1 (Jk_0 rfl rfl ?_)
  refine J_aload_n (pc := 4) dX3_reachable_4 rfl 0 rfl ?_
  refine J_LS [(0, .ref 0)] [.ref 0] rfl rfl ?_
  refine get_0_3 (pc := 5) w_219 dX3_reachable_5 ?_
  refine J_iconst (v := (3 : Int32)) (pc := 8) dX3_reachable_8 (by decide) ?_
  obtain ⟨M3, hc4, h⟩ := obind_e h
  refine J_callV (g := mi_X0_spreadFromStart) (ci := 0) (pc := 9) [.int (3 : Int32)] [] mv_X0_spreadFromStart w_526 (k_X0_spreadFromStart (3 : Int32) _ hc4) rfl (by decide) rfl rfl rfl ⟨⟨Nat.le_of_ble_eq_true rfl, Nat.le_of_ble_eq_true rfl⟩, Nat.le_of_ble_eq_true rfl, Nat.le_of_ble_eq_true rfl⟩ (Nat.le_of_ble_eq_true rfl) dX3_reachable_9 (Jk_0 rfl rfl ?_)
  refine J_aload_n (pc := 12) dX3_reachable_12 rfl 0 rfl ?_
  refine get_0_3 (pc := 13) w_219 dX3_reachable_13 ?_
  refine get_44_9 (pc := 16) w_172 dX3_reachable_16 ?_
  cases h
  exact J_ireturn dX3_reachable_19 rfl rfl rfl rfl rfl
set_option maxHeartbeats 4000000 in
set_option maxRecDepth 100000 in
theorem k_X3_reachableOut {E : En} (M : Wd) {r : Int32} {M' : Wd} (h : F_X3_reachableOut M = some (r, M')) : Con E mi_X3_reachableOut [.ref 0] M (.inl (some (.int r))) M' := by
  unfold F_X3_reachableOut at h
  refine Con.of (by decide) rfl (Nat.le_of_ble_eq_true rfl) (fun κ => ?_)
  show J κ E mi_X3_reachableOut _ 0 0 [(0, .ref 0)] M 0 []
  refine J_aload_n (pc := 0) dX3_reachableOut_0 rfl 0 rfl ?_
  obtain ⟨M1, hc2, h⟩ := obind_e h
  refine J_callV (g := mi_X3_exploreNow) (ci := 3) (pc := 1) [] [] mv_X3_exploreNow w_396 (k_X3_exploreNow _ hc2) rfl (by decide) rfl rfl rfl ⟨⟨Nat.le_of_ble_eq_true rfl, Nat.le_of_ble_eq_true rfl⟩, Nat.le_of_ble_eq_true rfl, Nat.le_of_ble_eq_true rfl⟩ (Nat.le_of_ble_eq_true rfl) dX3_reachableOut_1 (Jk_0 rfl rfl ?_)
  refine J_aload_n (pc := 4) dX3_reachableOut_4 rfl 0 rfl ?_
  refine J_LS [(0, .ref 0)] [.ref 0] rfl rfl ?_
  refine get_0_3 (pc := 5) w_219 dX3_reachableOut_5 ?_
  refine J_iconst (v := (3 : Int32)) (pc := 8) dX3_reachableOut_8 (by decide) ?_
  obtain ⟨M3, hc4, h⟩ := obind_e h
  refine J_callV (g := mi_X0_spreadFromStart) (ci := 0) (pc := 9) [.int (3 : Int32)] [] mv_X0_spreadFromStart w_526 (k_X0_spreadFromStart (3 : Int32) _ hc4) rfl (by decide) rfl rfl rfl ⟨⟨Nat.le_of_ble_eq_true rfl, Nat.le_of_ble_eq_true rfl⟩, Nat.le_of_ble_eq_true rfl, Nat.le_of_ble_eq_true rfl⟩ (Nat.le_of_ble_eq_true rfl) dX3_reachableOut_9 (Jk_0 rfl rfl ?_)
  refine J_aload_n (pc := 12) dX3_reachableOut_12 rfl 0 rfl ?_
  refine get_0_3 (pc := 13) w_219 dX3_reachableOut_13 ?_
  obtain ⟨v5, hc6, h⟩ := obind_e h
  refine J_callV (g := mi_X0_foundOut) (ci := 0) (pc := 16) [] [] mv_X0_foundOut w_531 (k_X0_foundOut _ hc6) rfl (by decide) rfl rfl rfl ⟨⟨Nat.le_of_ble_eq_true rfl, Nat.le_of_ble_eq_true rfl⟩, Nat.le_of_ble_eq_true rfl, Nat.le_of_ble_eq_true rfl⟩ (Nat.le_of_ble_eq_true rfl) dX3_reachableOut_16 (Jk_v rfl rfl fun hok7 => ?_)
  cases h
  exact J_ireturn dX3_reachableOut_19 rfl rfl rfl rfl rfl
set_option maxHeartbeats 4000000 in
set_option maxRecDepth 100000 in
theorem k_X3_farthest {E : En} (M : Wd) {r : Int32} {M' : Wd} (h : F_X3_farthest M = some (r, M')) : Con E mi_X3_farthest [.ref 0] M (.inl (some (.int r))) M' := by
  unfold F_X3_farthest at h
  refine Con.of (by decide) rfl (Nat.le_of_ble_eq_true rfl) (fun κ => ?_)
  show J κ E mi_X3_farthest _ 0 0 [(0, .ref 0)] M 0 []
  refine J_aload_n (pc := 0) dX3_farthest_0 rfl 0 rfl ?_
  obtain ⟨M1, hc2, h⟩ := obind_e h
  refine J_callV (g := mi_X3_exploreNow) (ci := 3) (pc := 1) [] [] mv_X3_exploreNow w_396 (k_X3_exploreNow _ hc2) rfl (by decide) rfl rfl rfl ⟨⟨Nat.le_of_ble_eq_true rfl, Nat.le_of_ble_eq_true rfl⟩, Nat.le_of_ble_eq_true rfl, Nat.le_of_ble_eq_true rfl⟩ (Nat.le_of_ble_eq_true rfl) dX3_farthest_1 (Jk_0 rfl rfl ?_)
  refine J_aload_n (pc := 4) dX3_farthest_4 rfl 0 rfl ?_
  refine J_LS [(0, .ref 0)] [.ref 0] rfl rfl ?_
  refine get_0_3 (pc := 5) w_219 dX3_farthest_5 ?_
  refine J_iconst (v := (3 : Int32)) (pc := 8) dX3_farthest_8 (by decide) ?_
  obtain ⟨M3, hc4, h⟩ := obind_e h
  refine J_callV (g := mi_X0_spreadFromStart) (ci := 0) (pc := 9) [.int (3 : Int32)] [] mv_X0_spreadFromStart w_526 (k_X0_spreadFromStart (3 : Int32) _ hc4) rfl (by decide) rfl rfl rfl ⟨⟨Nat.le_of_ble_eq_true rfl, Nat.le_of_ble_eq_true rfl⟩, Nat.le_of_ble_eq_true rfl, Nat.le_of_ble_eq_true rfl⟩ (Nat.le_of_ble_eq_true rfl) dX3_farthest_9 (Jk_0 rfl rfl ?_)
  refine J_aload_n (pc := 12) dX3_farthest_12 rfl 0 rfl ?_
  refine get_0_3 (pc := 13) w_219 dX3_farthest_13 ?_
  obtain ⟨v5, hc6, h⟩ := obind_e h
  refine J_callV (g := mi_X0_farthestFound) (ci := 0) (pc := 16) [] [] mv_X0_farthestFound w_539 (k_X0_farthestFound _ hc6) rfl (by decide) rfl rfl rfl ⟨⟨Nat.le_of_ble_eq_true rfl, Nat.le_of_ble_eq_true rfl⟩, Nat.le_of_ble_eq_true rfl, Nat.le_of_ble_eq_true rfl⟩ (Nat.le_of_ble_eq_true rfl) dX3_farthest_16 (Jk_v rfl rfl fun hok7 => ?_)
  cases h
  exact J_ireturn dX3_farthest_19 rfl rfl rfl rfl rfl
set_option maxHeartbeats 4000000 in
set_option maxRecDepth 100000 in
theorem k_X3_arrangements {E : En} (M : Wd) {r : Int32} {M' : Wd} (h : F_X3_arrangements M = some (r, M')) : Con E mi_X3_arrangements [.ref 0] M (.inl (some (.int r))) M' := by
  unfold F_X3_arrangements at h
  refine Con.of (by decide) rfl (Nat.le_of_ble_eq_true rfl) (fun κ => ?_)
  show J κ E mi_X3_arrangements _ 0 0 [(0, .ref 0)] M 0 []
  refine J_aload_n (pc := 0) dX3_arrangements_0 rfl 0 rfl ?_
  obtain ⟨M1, hc2, h⟩ := obind_e h
  refine J_callV (g := mi_X3_exploreNow) (ci := 3) (pc := 1) [] [] mv_X3_exploreNow w_396 (k_X3_exploreNow _ hc2) rfl (by decide) rfl rfl rfl ⟨⟨Nat.le_of_ble_eq_true rfl, Nat.le_of_ble_eq_true rfl⟩, Nat.le_of_ble_eq_true rfl, Nat.le_of_ble_eq_true rfl⟩ (Nat.le_of_ble_eq_true rfl) dX3_arrangements_1 (Jk_0 rfl rfl ?_)
  refine J_aload_n (pc := 4) dX3_arrangements_4 rfl 0 rfl ?_
  refine J_LS [(0, .ref 0)] [.ref 0] rfl rfl ?_
  refine get_0_3 (pc := 5) w_219 dX3_arrangements_5 ?_
  obtain ⟨v3, hc4, h⟩ := obind_e h
  refine J_callV (g := mi_X0_allArrangements) (ci := 0) (pc := 8) [] [] mv_X0_allArrangements w_547 (k_X0_allArrangements _ hc4) rfl (by decide) rfl rfl rfl ⟨⟨Nat.le_of_ble_eq_true rfl, Nat.le_of_ble_eq_true rfl⟩, Nat.le_of_ble_eq_true rfl, Nat.le_of_ble_eq_true rfl⟩ (Nat.le_of_ble_eq_true rfl) dX3_arrangements_8 (Jk_v rfl rfl fun hok5 => ?_)
  cases h
  exact J_ireturn dX3_arrangements_11 rfl rfl rfl rfl rfl
set_option maxHeartbeats 4000000 in
set_option maxRecDepth 100000 in
theorem k_X3_fewestBehind {E : En} (a1 : Int32) (a2 : Int32) (M : Wd) {r : Int32 ⊕ Nat} {M' : Wd} (h : F_X3_fewestBehind a1 a2 M = some (r, M')) : Con E mi_X3_fewestBehind [.ref 0, .int a1, .int a2] M (ocI r) M' := by
  unfold F_X3_fewestBehind at h
  refine Con.of (by decide) rfl (Nat.le_of_ble_eq_true rfl) (fun κ => ?_)
  show J κ E mi_X3_fewestBehind _ 0 0 [(0, .ref 0), (1, .int a1), (2, .int a2)] M 0 []
  refine J_aload_n (pc := 0) dX3_fewestBehind_0 rfl 0 rfl ?_
  refine get_0_0 (pc := 1) w_216 dX3_fewestBehind_1 ?_
  refine J_iload_n (pc := 4) dX3_fewestBehind_4 rfl 1 rfl ?_
  refine J_LS [(0, .ref 0), (1, .int a1), (2, .int a2)] [.int a1, .ref 1] rfl rfl ?_
  refine J_iload_n (pc := 5) dX3_fewestBehind_5 rfl 2 rfl ?_
  obtain ⟨v1, hc2, h⟩ := obind_e h
  refine J_callV (g := mi_X1_troubleOfSliding) (ci := 1) (pc := 6) [.int a1, .int a2] [] mv_X1_troubleOfSliding w_776 (k_X1_troubleOfSliding a1 a2 _ hc2) rfl (by decide) rfl rfl rfl ⟨⟨Nat.le_of_ble_eq_true rfl, Nat.le_of_ble_eq_true rfl⟩, Nat.le_of_ble_eq_true rfl, Nat.le_of_ble_eq_true rfl⟩ (Nat.le_of_ble_eq_true rfl) dX3_fewestBehind_6 (Jk_v rfl rfl fun hok3 => ?_)
  rcases obindX_e h with ⟨v4, M5, hc6, h⟩ | ⟨x8, M5, hc6, h⟩
  · refine J_callS (g := mi_X3_refuse) (pc := 9) [.int v1] [] ms_X3_refuse w_629 (k_X3_refuse v1 _ hc6) rfl rfl ⟨⟨Nat.le_of_ble_eq_true rfl, Nat.le_of_ble_eq_true rfl⟩, Nat.le_of_ble_eq_true rfl, Nat.le_of_ble_eq_true rfl⟩ (Nat.le_of_ble_eq_true rfl) dX3_fewestBehind_9 (Jk_0k 1 6 rfl rfl ?_)
    refine J_aload_n (pc := 12) dX3_fewestBehind_12 rfl 0 rfl ?_
    refine J_LS [(0, .ref 0), (1, .int a1), (2, .int a2)] [.ref 0] rfl rfl ?_
    obtain ⟨M9, hc10, h⟩ := obind_e h
    refine J_callV (g := mi_X3_exploreNow) (ci := 3) (pc := 13) [] [] mv_X3_exploreNow w_396 (k_X3_exploreNow _ hc10) rfl (by decide) rfl rfl rfl ⟨⟨Nat.le_of_ble_eq_true rfl, Nat.le_of_ble_eq_true rfl⟩, Nat.le_of_ble_eq_true rfl, Nat.le_of_ble_eq_true rfl⟩ (Nat.le_of_ble_eq_true rfl) dX3_fewestBehind_13 (Jk_0 rfl rfl ?_)
    refine J_aload_n (pc := 16) dX3_fewestBehind_16 rfl 0 rfl ?_
    refine get_0_3 (pc := 17) w_219 dX3_fewestBehind_17 ?_
    refine J_aload_n (pc := 20) dX3_fewestBehind_20 rfl 0 rfl ?_
    refine J_LS [(0, .ref 0), (1, .int a1), (2, .int a2)] [.ref 0, .ref 44] rfl rfl ?_
    refine get_0_3 (pc := 21) w_219 dX3_fewestBehind_21 ?_
    refine J_aload_n (pc := 24) dX3_fewestBehind_24 rfl 0 rfl ?_
    refine get_0_3 (pc := 25) w_219 dX3_fewestBehind_25 ?_
    refine get_44_8 (pc := 28) w_170 dX3_fewestBehind_28 ?_
    refine J_iload_n (pc := 31) dX3_fewestBehind_31 rfl 1 rfl ?_
    refine J_LS [(0, .ref 0), (1, .int a1), (2, .int a2)] [.int a1, .int (M9.1 44 8), .ref 44, .ref 44] rfl rfl ?_
    refine J_iload_n (pc := 32) dX3_fewestBehind_32 rfl 2 rfl ?_
    obtain ⟨v11, hc12, h⟩ := obind_e h
    refine J_callV (g := mi_X0_behindSlide) (ci := 0) (pc := 33) [.int (M9.1 44 8), .int a1, .int a2] [.ref 44] mv_X0_behindSlide w_819 (k_X0_behindSlide (M9.1 44 8) a1 a2 _ hc12) rfl (by decide) rfl rfl rfl ⟨⟨Nat.le_of_ble_eq_true rfl, Nat.le_of_ble_eq_true rfl⟩, Nat.le_of_ble_eq_true rfl, Nat.le_of_ble_eq_true rfl⟩ (Nat.le_of_ble_eq_true rfl) dX3_fewestBehind_33 (Jk_v rfl rfl fun hok13 => ?_)
    refine put_44_8 (pc := 36) w_170 dX3_fewestBehind_36 ?_
    refine J_aload_n (pc := 39) dX3_fewestBehind_39 rfl 0 rfl ?_
    refine J_LS [(0, .ref 0), (1, .int a1), (2, .int a2)] [.ref 0] rfl rfl ?_
    refine get_0_3 (pc := 40) w_219 dX3_fewestBehind_40 ?_
    obtain ⟨v14, M15, hc16, h⟩ := obind2_e h
    refine J_callV (g := mi_X0_slidesFromStart) (ci := 0) (pc := 43) [] [] mv_X0_slidesFromStart w_418 (k_X0_slidesFromStart _ hc16) rfl (by decide) rfl rfl rfl ⟨⟨Nat.le_of_ble_eq_true rfl, Nat.le_of_ble_eq_true rfl⟩, Nat.le_of_ble_eq_true rfl, Nat.le_of_ble_eq_true rfl⟩ (Nat.le_of_ble_eq_true rfl) dX3_fewestBehind_43 (Jk_v rfl rfl fun hok17 => ?_)
    cases h
    refine J_wide (k' := 1) (n' := 6) (Nat.le_of_ble_eq_true rfl) (Nat.le_of_ble_eq_true rfl) ?_
    exact J_ireturn dX3_fewestBehind_46 rfl rfl rfl rfl rfl
  · cases h
    refine J_callS (g := mi_X3_refuse) (pc := 9) [.int v1] [] ms_X3_refuse w_629 (k_X3_refuse v1 _ hc6) rfl rfl ⟨⟨Nat.le_of_ble_eq_true rfl, Nat.le_of_ble_eq_true rfl⟩, Nat.le_of_ble_eq_true rfl, Nat.le_of_ble_eq_true rfl⟩ (Nat.le_of_ble_eq_true rfl) dX3_fewestBehind_9 (Jk_out rfl rfl rfl ⟨⟨Nat.le_of_ble_eq_true rfl, Nat.le_of_ble_eq_true rfl⟩, Nat.le_of_ble_eq_true rfl, Nat.le_of_ble_eq_true rfl⟩)
set_option maxHeartbeats 4000000 in
set_option maxRecDepth 100000 in
theorem k_X3_fewestWithoutLast {E : En} (M : Wd) {r : Int32 ⊕ Nat} {M' : Wd} (h : F_X3_fewestWithoutLast M = some (r, M')) : Con E mi_X3_fewestWithoutLast [.ref 0] M (ocI r) M' := by
  unfold F_X3_fewestWithoutLast at h
  refine Con.of (by decide) rfl (Nat.le_of_ble_eq_true rfl) (fun κ => ?_)
  show J κ E mi_X3_fewestWithoutLast _ 0 0 [(0, .ref 0)] M 0 []
  refine J_aload_n (pc := 0) dX3_fewestWithoutLast_0 rfl 0 rfl ?_
  refine get_0_0 (pc := 1) w_216 dX3_fewestWithoutLast_1 ?_
  refine get_1_5 (pc := 4) w_123 dX3_fewestWithoutLast_4 ?_
  refine J_iconst (v := (2 : Int32)) (pc := 7) dX3_fewestWithoutLast_7 (by decide) ?_
  refine J_icmp_ge (pc := 8) (tgt := 22) dX3_fewestWithoutLast_8 (by decide) (fun c1 => ?_) (fun c1 => ?_)
  · replace h := ifp c1 h
    refine J_aload_n (pc := 22) dX3_fewestWithoutLast_22 rfl 0 rfl ?_
    refine J_LS [(0, .ref 0)] [.ref 0] rfl rfl ?_
    refine get_0_3 (pc := 23) w_219 dX3_fewestWithoutLast_23 ?_
    refine J_aload_n (pc := 26) dX3_fewestWithoutLast_26 rfl 0 rfl ?_
    refine get_0_0 (pc := 27) w_216 dX3_fewestWithoutLast_27 ?_
    refine J_aload_n (pc := 30) dX3_fewestWithoutLast_30 rfl 0 rfl ?_
    refine J_LS [(0, .ref 0)] [.ref 0, .ref 1, .ref 44] rfl rfl ?_
    refine get_0_0 (pc := 31) w_216 dX3_fewestWithoutLast_31 ?_
    refine get_1_5 (pc := 34) w_123 dX3_fewestWithoutLast_34 ?_
    refine J_iconst (v := (1 : Int32)) (pc := 37) dX3_fewestWithoutLast_37 (by decide) ?_
    refine J_isub (pc := 38) dX3_fewestWithoutLast_38 ?_
    refine J_aload_n (pc := 39) dX3_fewestWithoutLast_39 rfl 0 rfl ?_
    refine get_0_0 (pc := 40) w_216 dX3_fewestWithoutLast_40 ?_
    refine get_1_6 (pc := 43) w_125 dX3_fewestWithoutLast_43 ?_
    obtain ⟨M2, hc3, h⟩ := obind_e h
    refine J_callV (g := mi_X0_load) (ci := 0) (pc := 46) [.ref 1, .int ((M.1 1 5) - (1 : Int32)), .int (M.1 1 6)] [] mv_X0_load w_400 (k_X0_load_1 ((M.1 1 5) - (1 : Int32)) (M.1 1 6) _ hc3) rfl (by decide) rfl rfl rfl ⟨⟨Nat.le_of_ble_eq_true rfl, Nat.le_of_ble_eq_true rfl⟩, Nat.le_of_ble_eq_true rfl, Nat.le_of_ble_eq_true rfl⟩ (Nat.le_of_ble_eq_true rfl) dX3_fewestWithoutLast_46 (Jk_0 rfl rfl ?_)
    refine J_aload_n (pc := 49) dX3_fewestWithoutLast_49 rfl 0 rfl ?_
    refine J_LS [(0, .ref 0)] [.ref 0] rfl rfl ?_
    refine get_0_3 (pc := 50) w_219 dX3_fewestWithoutLast_50 ?_
    obtain ⟨v4, M5, hc6, h⟩ := obind2_e h
    refine J_callV (g := mi_X0_slidesFromStart) (ci := 0) (pc := 53) [] [] mv_X0_slidesFromStart w_418 (k_X0_slidesFromStart _ hc6) rfl (by decide) rfl rfl rfl ⟨⟨Nat.le_of_ble_eq_true rfl, Nat.le_of_ble_eq_true rfl⟩, Nat.le_of_ble_eq_true rfl, Nat.le_of_ble_eq_true rfl⟩ (Nat.le_of_ble_eq_true rfl) dX3_fewestWithoutLast_53 (Jk_v rfl rfl fun hok7 => ?_)
    cases h
    refine J_wide (k' := 1) (n' := 6) (Nat.le_of_ble_eq_true rfl) (Nat.le_of_ble_eq_true rfl) ?_
    exact J_ireturn dX3_fewestWithoutLast_56 rfl rfl rfl rfl rfl
  · replace h := ifn c1 h
    cases h
    exact J_throwSW (pc := 11) (text := "there are fewer than 2 cars") rfl rfl rfl (by decide +kernel) w_716 w_90 (by decide) ats_RX3_66 dX3_fewestWithoutLast_11 dX3_fewestWithoutLast_14 dX3_fewestWithoutLast_15 dX3_fewestWithoutLast_18 dX3_fewestWithoutLast_21 ⟨⟨Nat.le_of_ble_eq_true rfl, Nat.le_of_ble_eq_true rfl⟩, Nat.le_of_ble_eq_true rfl, Nat.le_of_ble_eq_true rfl⟩
set_option maxHeartbeats 4000000 in
set_option maxRecDepth 100000 in
theorem k_X3_fewestWithWall {E : En} (a1 : Int32) (M : Wd) {r : Int32 ⊕ Nat} {M' : Wd} (h : F_X3_fewestWithWall a1 M = some (r, M')) : Con E mi_X3_fewestWithWall [.ref 0, .int a1] M (ocI r) M' := by
  unfold F_X3_fewestWithWall at h
  refine Con.of (by decide) rfl (Nat.le_of_ble_eq_true rfl) (fun κ => ?_)
  show J κ E mi_X3_fewestWithWall _ 0 0 [(0, .ref 0), (1, .int a1)] M 0 []
  refine J_iload_n (pc := 0) dX3_fewestWithWall_0 rfl 1 rfl ?_
  refine J_callS (g := mi_X3_isCell) (pc := 1) [.int a1] [] ms_X3_isCell w_936 (k_X3_isCell a1 _) rfl rfl ⟨⟨Nat.le_of_ble_eq_true rfl, Nat.le_of_ble_eq_true rfl⟩, Nat.le_of_ble_eq_true rfl, Nat.le_of_ble_eq_true rfl⟩ (Nat.le_of_ble_eq_true rfl) dX3_fewestWithWall_1 (Jk_v rfl rfl fun hok1 => ?_)
  refine J_if_ne (pc := 4) (tgt := 17) dX3_fewestWithWall_4 (by decide) (fun c2 => ?_) (fun c2 => ?_)
  · replace h := ifn c2 h
    refine J_aload_n (pc := 17) dX3_fewestWithWall_17 rfl 0 rfl ?_
    refine J_LS [(0, .ref 0), (1, .int a1)] [.ref 0] rfl rfl ?_
    refine get_0_0 (pc := 18) w_216 dX3_fewestWithWall_18 ?_
    obtain ⟨v3, hc4, h⟩ := obind_e h
    refine J_callV (g := mi_X1_takenCells) (ci := 1) (pc := 21) [] [] mv_X1_takenCells w_337 (k_X1_takenCells _ hc4) rfl (by decide) rfl rfl rfl ⟨⟨Nat.le_of_ble_eq_true rfl, Nat.le_of_ble_eq_true rfl⟩, Nat.le_of_ble_eq_true rfl, Nat.le_of_ble_eq_true rfl⟩ (Nat.le_of_ble_eq_true rfl) dX3_fewestWithWall_21 (Jk_v rfl rfl fun hok5 => ?_)
    refine J_iconst (v := (1 : Int32)) (pc := 24) dX3_fewestWithWall_24 (by decide) ?_
    refine J_iload_n (pc := 25) dX3_fewestWithWall_25 rfl 1 rfl ?_
    refine J_ishl (pc := 26) dX3_fewestWithWall_26 ?_
    refine J_iand (pc := 27) dX3_fewestWithWall_27 ?_
    refine J_if_eq (pc := 28) (tgt := 42) dX3_fewestWithWall_28 (by decide) (fun c6 => ?_) (fun c6 => ?_)
    · replace h := ifp c6 h
      refine J_aload_n (pc := 42) dX3_fewestWithWall_42 rfl 0 rfl ?_
      refine J_LS [(0, .ref 0), (1, .int a1)] [.ref 0] rfl rfl ?_
      refine get_0_3 (pc := 43) w_219 dX3_fewestWithWall_43 ?_
      refine J_aload_n (pc := 46) dX3_fewestWithWall_46 rfl 0 rfl ?_
      refine get_0_0 (pc := 47) w_216 dX3_fewestWithWall_47 ?_
      refine J_aload_n (pc := 50) dX3_fewestWithWall_50 rfl 0 rfl ?_
      refine J_LS [(0, .ref 0), (1, .int a1)] [.ref 0, .ref 1, .ref 44] rfl rfl ?_
      refine get_0_0 (pc := 51) w_216 dX3_fewestWithWall_51 ?_
      refine get_1_5 (pc := 54) w_123 dX3_fewestWithWall_54 ?_
      refine J_aload_n (pc := 57) dX3_fewestWithWall_57 rfl 0 rfl ?_
      refine get_0_0 (pc := 58) w_216 dX3_fewestWithWall_58 ?_
      refine get_1_6 (pc := 61) w_125 dX3_fewestWithWall_61 ?_
      refine J_iconst (v := (1 : Int32)) (pc := 64) dX3_fewestWithWall_64 (by decide) ?_
      refine J_iload_n (pc := 65) dX3_fewestWithWall_65 rfl 1 rfl ?_
      refine J_LS [(0, .ref 0), (1, .int a1)] [.int a1, .int (1 : Int32), .int (M.1 1 6), .int (M.1 1 5), .ref 1, .ref 44] rfl rfl ?_
      refine J_ishl (pc := 66) dX3_fewestWithWall_66 ?_
      refine J_ior (pc := 67) dX3_fewestWithWall_67 ?_
      obtain ⟨M7, hc8, h⟩ := obind_e h
      refine J_callV (g := mi_X0_load) (ci := 0) (pc := 68) [.ref 1, .int (M.1 1 5), .int ((M.1 1 6) ||| ((1 : Int32) <<< (a1 &&& 31)))] [] mv_X0_load w_400 (k_X0_load_1 (M.1 1 5) ((M.1 1 6) ||| ((1 : Int32) <<< (a1 &&& 31))) _ hc8) rfl (by decide) rfl rfl rfl ⟨⟨Nat.le_of_ble_eq_true rfl, Nat.le_of_ble_eq_true rfl⟩, Nat.le_of_ble_eq_true rfl, Nat.le_of_ble_eq_true rfl⟩ (Nat.le_of_ble_eq_true rfl) dX3_fewestWithWall_68 (Jk_0 rfl rfl ?_)
      refine J_aload_n (pc := 71) dX3_fewestWithWall_71 rfl 0 rfl ?_
      refine get_0_3 (pc := 72) w_219 dX3_fewestWithWall_72 ?_
      obtain ⟨v9, M10, hc11, h⟩ := obind2_e h
      refine J_callV (g := mi_X0_slidesFromStart) (ci := 0) (pc := 75) [] [] mv_X0_slidesFromStart w_418 (k_X0_slidesFromStart _ hc11) rfl (by decide) rfl rfl rfl ⟨⟨Nat.le_of_ble_eq_true rfl, Nat.le_of_ble_eq_true rfl⟩, Nat.le_of_ble_eq_true rfl, Nat.le_of_ble_eq_true rfl⟩ (Nat.le_of_ble_eq_true rfl) dX3_fewestWithWall_75 (Jk_v rfl rfl fun hok12 => ?_)
      cases h
      refine J_wide (k' := 1) (n' := 6) (Nat.le_of_ble_eq_true rfl) (Nat.le_of_ble_eq_true rfl) ?_
      exact J_ireturn dX3_fewestWithWall_78 rfl rfl rfl rfl rfl
    · replace h := ifn c6 h
      cases h
      exact J_throwSW (pc := 31) (text := "a car or a wall is on the cell") rfl rfl rfl (by decide +kernel) w_716 w_90 (by decide) ats_RX3_66 dX3_fewestWithWall_31 dX3_fewestWithWall_34 dX3_fewestWithWall_35 dX3_fewestWithWall_38 dX3_fewestWithWall_41 ⟨⟨Nat.le_of_ble_eq_true rfl, Nat.le_of_ble_eq_true rfl⟩, Nat.le_of_ble_eq_true rfl, Nat.le_of_ble_eq_true rfl⟩
  · replace h := ifp c2 h
    cases h
    exact J_throwS (pc := 7) (text := "there is no such cell") rfl rfl rfl (by decide +kernel) w_632 w_88 (by decide) ats_RX3_168 dX3_fewestWithWall_7 dX3_fewestWithWall_10 dX3_fewestWithWall_11 dX3_fewestWithWall_13 dX3_fewestWithWall_16 ⟨⟨Nat.le_of_ble_eq_true rfl, Nat.le_of_ble_eq_true rfl⟩, Nat.le_of_ble_eq_true rfl, Nat.le_of_ble_eq_true rfl⟩
set_option maxHeartbeats 4000000 in
set_option maxRecDepth 100000 in
theorem k_X3_share {E : En} (a0 : Int32) (a1 : Int32) (M : Wd) {r : UInt64} (h : F_X3_share a0 a1 = some r) : Con E mi_X3_share [.int a0, .int a1] M (.inl (some (.double r))) M := by
  unfold F_X3_share at h
  refine Con.of (by decide) rfl (Nat.le_of_ble_eq_true rfl) (fun κ => ?_)
  show J κ E mi_X3_share _ 0 0 [(0, .int a0), (1, .int a1)] M 0 []
  refine J_iload_n (pc := 0) dX3_share_0 rfl 1 rfl ?_
  refine J_if_le (pc := 1) (tgt := 12) dX3_share_1 (by decide) (fun c1 => ?_) (fun c1 => ?_)
  · replace h := ifp c1 h
    refine J_dconst0 (pc := 12) dX3_share_12 ?_
    cases h
    exact J_dreturn dX3_share_13 rfl rfl rfl rfl rfl
  · replace h := ifn c1 h
    refine J_iload_n (pc := 4) dX3_share_4 rfl 0 rfl ?_
    refine J_LS [(0, .int a0), (1, .int a1)] [.int a0] rfl rfl ?_
    refine J_i2d (pc := 5) dX3_share_5 ?_
    refine J_iload_n (pc := 6) dX3_share_6 rfl 1 rfl ?_
    refine J_i2d (pc := 7) dX3_share_7 ?_
    obtain ⟨hn2, h⟩ := grd_e h
    refine J_ddiv (pc := 8) dX3_share_8 hn2 ?_
    refine J_goto (pc := 9) (tgt := 13) dX3_share_9 (by decide) ?_
    cases h
    exact J_dreturn dX3_share_13 rfl rfl rfl rfl rfl
set_option maxHeartbeats 4000000 in
set_option maxRecDepth 100000 in
theorem k_X3_reachedShare {E : En} (M : Wd) {r : UInt64} {M' : Wd} (h : F_X3_reachedShare M = some (r, M')) : Con E mi_X3_reachedShare [.ref 0] M (.inl (some (.double r))) M' := by
  unfold F_X3_reachedShare at h
  refine Con.of (by decide) rfl (Nat.le_of_ble_eq_true rfl) (fun κ => ?_)
  show J κ E mi_X3_reachedShare _ 0 0 [(0, .ref 0)] M 0 []
  refine J_aload_n (pc := 0) dX3_reachedShare_0 rfl 0 rfl ?_
  obtain ⟨M1, hc2, h⟩ := obind_e h
  refine J_callV (g := mi_X3_exploreNow) (ci := 3) (pc := 1) [] [] mv_X3_exploreNow w_396 (k_X3_exploreNow _ hc2) rfl (by decide) rfl rfl rfl ⟨⟨Nat.le_of_ble_eq_true rfl, Nat.le_of_ble_eq_true rfl⟩, Nat.le_of_ble_eq_true rfl, Nat.le_of_ble_eq_true rfl⟩ (Nat.le_of_ble_eq_true rfl) dX3_reachedShare_1 (Jk_0 rfl rfl ?_)
  refine J_aload_n (pc := 4) dX3_reachedShare_4 rfl 0 rfl ?_
  refine J_LS [(0, .ref 0)] [.ref 0] rfl rfl ?_
  refine get_0_3 (pc := 5) w_219 dX3_reachedShare_5 ?_
  refine J_iconst (v := (3 : Int32)) (pc := 8) dX3_reachedShare_8 (by decide) ?_
  obtain ⟨M3, hc4, h⟩ := obind_e h
  refine J_callV (g := mi_X0_spreadFromStart) (ci := 0) (pc := 9) [.int (3 : Int32)] [] mv_X0_spreadFromStart w_526 (k_X0_spreadFromStart (3 : Int32) _ hc4) rfl (by decide) rfl rfl rfl ⟨⟨Nat.le_of_ble_eq_true rfl, Nat.le_of_ble_eq_true rfl⟩, Nat.le_of_ble_eq_true rfl, Nat.le_of_ble_eq_true rfl⟩ (Nat.le_of_ble_eq_true rfl) dX3_reachedShare_9 (Jk_0 rfl rfl ?_)
  refine J_aload_n (pc := 12) dX3_reachedShare_12 rfl 0 rfl ?_
  refine get_0_3 (pc := 13) w_219 dX3_reachedShare_13 ?_
  refine get_44_9 (pc := 16) w_172 dX3_reachedShare_16 ?_
  refine J_aload_n (pc := 19) dX3_reachedShare_19 rfl 0 rfl ?_
  refine J_LS [(0, .ref 0)] [.ref 0, .int (M3.1 44 9)] rfl rfl ?_
  refine get_0_3 (pc := 20) w_219 dX3_reachedShare_20 ?_
  obtain ⟨v5, hc6, h⟩ := obind_e h
  refine J_callV (g := mi_X0_allArrangements) (ci := 0) (pc := 23) [] [.int (M3.1 44 9)] mv_X0_allArrangements w_547 (k_X0_allArrangements _ hc6) rfl (by decide) rfl rfl rfl ⟨⟨Nat.le_of_ble_eq_true rfl, Nat.le_of_ble_eq_true rfl⟩, Nat.le_of_ble_eq_true rfl, Nat.le_of_ble_eq_true rfl⟩ (Nat.le_of_ble_eq_true rfl) dX3_reachedShare_23 (Jk_v rfl rfl fun hok7 => ?_)
  obtain ⟨v8, hc9, h⟩ := obind_e h
  refine J_callS (g := mi_X3_share) (pc := 26) [.int (M3.1 44 9), .int v5] [] ms_X3_share w_555 (k_X3_share (M3.1 44 9) v5 _ hc9) rfl rfl ⟨⟨Nat.le_of_ble_eq_true rfl, Nat.le_of_ble_eq_true rfl⟩, Nat.le_of_ble_eq_true rfl, Nat.le_of_ble_eq_true rfl⟩ (Nat.le_of_ble_eq_true rfl) dX3_reachedShare_26 (Jk_v rfl rfl fun hok10 => ?_)
  cases h
  exact J_dreturn dX3_reachedShare_29 rfl rfl rfl rfl rfl
set_option maxHeartbeats 4000000 in
set_option maxRecDepth 100000 in
theorem kL_X3_bitsOf_L7 {κ : Kx} {E : En} {Q : State → Prop} {ρ : Type} {r : ρ} (M : Wd) (K35 : UInt64 → Int64 → Option ρ) (hK35 : ∀ (x2 : UInt64) (x4 : Int64), K35 x2 x4 = some r → J κ E mi_X3_bitsOf Q 0 0 [(2, .double x2), (4, .long x4)] M 35 []) : ∀ (m : Nat) (x2 : UInt64) (x4 : Int64), F_X3_bitsOf_L7 K35 m x2 x4 = some r → J κ E mi_X3_bitsOf Q 0 0 [(2, .double x2), (4, .long x4)] M 7 [] := by
  intro m
  induction m with
  | zero => intro x2 x4 h; exact (nomatch (show (none : Option ρ) = some r from h))
  | succ m ih =>
    intro x2 x4 h
    unfold F_X3_bitsOf_L7 at h
    refine J_dload_n (pc := 7) dX3_bitsOf_7 rfl 0 rfl ?_
    refine J_dconst1 (pc := 8) dX3_bitsOf_8 ?_
    refine J_dcmp (pc := 9) dX3_bitsOf_9 ?_
    refine J_if_ge (pc := 10) (tgt := 35) dX3_bitsOf_10 (by decide) (fun c1 => ?_) (fun c1 => ?_)
    · replace h := ifp c1 h
      exact hK35 _ _ h
    · replace h := ifn c1 h
      refine J_lload (pc := 13) dX3_bitsOf_13 1 rfl ?_
      refine J_LS [(2, .double x2), (4, .long x4)] [.long x4] rfl rfl ?_
      refine J_lconst (v := (1 : Int64)) (pc := 15) dX3_bitsOf_15 (by decide) ?_
      refine J_lcmp (pc := 16) dX3_bitsOf_16 ?_
      refine J_if_le (pc := 17) (tgt := 35) dX3_bitsOf_17 (by decide) (fun c2 => ?_) (fun c2 => ?_)
      · replace h := ifp c2 h
        exact hK35 _ _ h
      · replace h := ifn c2 h
        refine J_dload_n (pc := 20) dX3_bitsOf_20 rfl 0 rfl ?_
        refine J_ldc2d (pc := 21) w_608 dX3_bitsOf_21 ?_
        obtain ⟨hn3, h⟩ := grd_e h
        refine J_dmul (pc := 24) dX3_bitsOf_24 hn3 ?_
        obtain ⟨v4, e5, h⟩ := bnd_e h
        refine J_topd e5 ?_
        refine J_dstore_n (pc := 25) dX3_bitsOf_25 rfl (Nat.le_of_ble_eq_true rfl) [0, 1] rfl ?_
        refine J_LS [(2, .double v4), (4, .long x4)] [] rfl rfl ?_
        refine J_lload (pc := 26) dX3_bitsOf_26 1 rfl ?_
        refine J_lconst (v := (1 : Int64)) (pc := 28) dX3_bitsOf_28 (by decide) ?_
        refine J_lsub (pc := 29) dX3_bitsOf_29 ?_
        obtain ⟨v6, e7, h⟩ := bnd_e h
        refine J_topl e7 ?_
        refine J_lstore (pc := 30) dX3_bitsOf_30 (Nat.le_of_ble_eq_true rfl) [1, 0] rfl ?_
        refine J_LS [(2, .double v4), (4, .long v6)] [] rfl rfl ?_
        refine J_goto (pc := 32) (tgt := 7) dX3_bitsOf_32 (by decide) ?_
        exact ih _ _ h
set_option maxHeartbeats 4000000 in
set_option maxRecDepth 100000 in
theorem k_X3_bitsOf {E : En} (a0 : UInt64) (M : Wd) {r : Int64} (h : F_X3_bitsOf a0 = some r) : Con E mi_X3_bitsOf [.double a0] M (.inl (some (.long r))) M := by
  unfold F_X3_bitsOf at h
  refine Con.of (by decide) rfl (Nat.le_of_ble_eq_true rfl) (fun κ => ?_)
  show J κ E mi_X3_bitsOf _ 0 0 [(0, .double a0)] M 0 []
  refine J_dload_n (pc := 0) dX3_bitsOf_0 rfl 0 rfl ?_
  refine J_dstore_n (pc := 1) dX3_bitsOf_1 rfl (Nat.le_of_ble_eq_true rfl) [1, 0] rfl ?_
  refine J_LS [(0, .double a0), (2, .double a0)] [] rfl rfl ?_
  refine J_ldc2 (pc := 2) w_607 dX3_bitsOf_2 ?_
  refine J_lstore (pc := 5) dX3_bitsOf_5 (Nat.le_of_ble_eq_true rfl) [1, 2, 0] rfl ?_
  refine J_sub [1, 2] rfl ?_
  refine kL_X3_bitsOf_L7 _ _ (fun v8 v9 h => ?_) fuelN _ _ h
  refine J_dload_n (pc := 35) dX3_bitsOf_35 rfl 0 rfl ?_
  refine J_LS [(2, .double v8), (4, .long v9)] [.double v8] rfl rfl ?_
  refine J_dconst1 (pc := 36) dX3_bitsOf_36 ?_
  obtain ⟨hn10, h⟩ := grd_e h
  refine J_dsub (pc := 37) dX3_bitsOf_37 hn10 ?_
  refine J_ldc2d (pc := 38) w_609 dX3_bitsOf_38 ?_
  obtain ⟨hn11, h⟩ := grd_e h
  refine J_dmul (pc := 41) dX3_bitsOf_41 hn11 ?_
  refine J_d2l (pc := 42) dX3_bitsOf_42 ?_
  obtain ⟨v12, e13, h⟩ := bnd_e h
  refine J_topl e13 ?_
  refine J_lstore (pc := 43) dX3_bitsOf_43 (Nat.le_of_ble_eq_true rfl) [1, 2, 0] rfl ?_
  refine J_lload (pc := 45) dX3_bitsOf_45 1 rfl ?_
  refine J_LS [(2, .double v8), (4, .long v9), (6, .long v12)] [.long v9] rfl rfl ?_
  refine J_bipush (v := (52 : Int32)) (pc := 47) dX3_bitsOf_47 (by decide) ?_
  refine J_lshl (pc := 49) dX3_bitsOf_49 rfl ?_
  refine J_lload (pc := 50) dX3_bitsOf_50 2 rfl ?_
  refine J_lor (pc := 52) dX3_bitsOf_52 ?_
  cases h
  exact J_lreturn dX3_bitsOf_53 rfl rfl rfl rfl rfl
set_option maxHeartbeats 4000000 in
set_option maxRecDepth 100000 in
theorem k_X3_mix {E : En} (a0 : Int64) (a2 : Int64) (M : Wd) : Con E mi_X3_mix [.long a0, .long a2] M (.inl (some (.long (F_X3_mix a0 a2)))) M := by
  obtain ⟨r, h⟩ : ∃ r, F_X3_mix a0 a2 = r := ⟨_, rfl⟩
  rw [h]
  unfold F_X3_mix at h
  refine Con.of (by decide) rfl (Nat.le_of_ble_eq_true rfl) (fun κ => ?_)
  show J κ E mi_X3_mix _ 0 0 [(0, .long a0), (2, .long a2)] M 0 []
  refine J_ldc2 (pc := 0) w_570 dX3_mix_0 ?_
  refine J_lload_n (pc := 3) dX3_mix_3 rfl 0 rfl ?_
  refine J_lmul (pc := 4) dX3_mix_4 ?_
  refine J_lload_n (pc := 5) dX3_mix_5 rfl 1 rfl ?_
  refine J_LS [(0, .long a0), (2, .long a2)] [.long a2, .long ((31 : Int64) * a0)] rfl rfl ?_
  refine J_ladd (pc := 6) dX3_mix_6 ?_
  subst h
  exact J_lreturn dX3_mix_7 rfl rfl rfl rfl rfl
set_option maxHeartbeats 4000000 in
set_option maxRecDepth 100000 in
theorem k_X3_hashOfArrangements {E : En} (a1 : Int64) (M : Wd) {r : Int64} (h : F_X3_hashOfArrangements a1 M = some r) : Con E mi_X3_hashOfArrangements [.ref 0, .long a1] M (.inl (some (.long r))) M := by
  unfold F_X3_hashOfArrangements at h
  refine Con.of (by decide) rfl (Nat.le_of_ble_eq_true rfl) (fun κ => ?_)
  show J κ E mi_X3_hashOfArrangements _ 0 0 [(0, .ref 0), (1, .long a1)] M 0 []
  refine J_lload_n (pc := 0) dX3_hashOfArrangements_0 rfl 1 rfl ?_
  refine J_aload_n (pc := 1) dX3_hashOfArrangements_1 rfl 0 rfl ?_
  refine J_LS [(0, .ref 0), (1, .long a1)] [.ref 0, .long a1] rfl rfl ?_
  refine get_0_3 (pc := 2) w_219 dX3_hashOfArrangements_2 ?_
  refine get_44_9 (pc := 5) w_172 dX3_hashOfArrangements_5 ?_
  refine J_i2l (pc := 8) dX3_hashOfArrangements_8 ?_
  refine J_callS (g := mi_X3_mix) (pc := 9) [.long a1, .long (M.1 44 9).toInt64] [] ms_X3_mix w_567 (k_X3_mix a1 (M.1 44 9).toInt64 _) rfl rfl ⟨⟨Nat.le_of_ble_eq_true rfl, Nat.le_of_ble_eq_true rfl⟩, Nat.le_of_ble_eq_true rfl, Nat.le_of_ble_eq_true rfl⟩ (Nat.le_of_ble_eq_true rfl) dX3_hashOfArrangements_9 (Jk_v rfl rfl fun hok1 => ?_)
  obtain ⟨v2, e3, h⟩ := bnd_e h
  refine J_topl e3 ?_
  refine J_lstore_n (pc := 12) dX3_hashOfArrangements_12 rfl (Nat.le_of_ble_eq_true rfl) [1, 2, 0] rfl ?_
  refine J_lload_n (pc := 13) dX3_hashOfArrangements_13 rfl 2 rfl ?_
  refine J_LS [(0, .ref 0), (1, .long a1), (3, .long v2)] [.long v2] rfl rfl ?_
  refine J_aload_n (pc := 14) dX3_hashOfArrangements_14 rfl 0 rfl ?_
  refine get_0_3 (pc := 15) w_219 dX3_hashOfArrangements_15 ?_
  obtain ⟨v4, hc5, h⟩ := obind_e h
  refine J_callV (g := mi_X0_foundOut) (ci := 0) (pc := 18) [] [.long v2] mv_X0_foundOut w_531 (k_X0_foundOut _ hc5) rfl (by decide) rfl rfl rfl ⟨⟨Nat.le_of_ble_eq_true rfl, Nat.le_of_ble_eq_true rfl⟩, Nat.le_of_ble_eq_true rfl, Nat.le_of_ble_eq_true rfl⟩ (Nat.le_of_ble_eq_true rfl) dX3_hashOfArrangements_18 (Jk_v rfl rfl fun hok6 => ?_)
  refine J_i2l (pc := 21) dX3_hashOfArrangements_21 ?_
  refine J_callS (g := mi_X3_mix) (pc := 22) [.long v2, .long v4.toInt64] [] ms_X3_mix w_567 (k_X3_mix v2 v4.toInt64 _) rfl rfl ⟨⟨Nat.le_of_ble_eq_true rfl, Nat.le_of_ble_eq_true rfl⟩, Nat.le_of_ble_eq_true rfl, Nat.le_of_ble_eq_true rfl⟩ (Nat.le_of_ble_eq_true rfl) dX3_hashOfArrangements_22 (Jk_v rfl rfl fun hok7 => ?_)
  obtain ⟨v8, e9, h⟩ := bnd_e h
  refine J_topl e9 ?_
  refine J_lstore_n (pc := 25) dX3_hashOfArrangements_25 rfl (Nat.le_of_ble_eq_true rfl) [1, 2, 0] rfl ?_
  refine J_LS [(0, .ref 0), (1, .long a1), (3, .long v8)] [] rfl rfl ?_
  refine J_lload_n (pc := 26) dX3_hashOfArrangements_26 rfl 2 rfl ?_
  refine J_aload_n (pc := 27) dX3_hashOfArrangements_27 rfl 0 rfl ?_
  refine J_LS [(0, .ref 0), (1, .long a1), (3, .long v8)] [.ref 0, .long v8] rfl rfl ?_
  refine get_0_3 (pc := 28) w_219 dX3_hashOfArrangements_28 ?_
  obtain ⟨v10, hc11, h⟩ := obind_e h
  refine J_callV (g := mi_X0_farthestFound) (ci := 0) (pc := 31) [] [.long v8] mv_X0_farthestFound w_539 (k_X0_farthestFound _ hc11) rfl (by decide) rfl rfl rfl ⟨⟨Nat.le_of_ble_eq_true rfl, Nat.le_of_ble_eq_true rfl⟩, Nat.le_of_ble_eq_true rfl, Nat.le_of_ble_eq_true rfl⟩ (Nat.le_of_ble_eq_true rfl) dX3_hashOfArrangements_31 (Jk_v rfl rfl fun hok12 => ?_)
  refine J_i2l (pc := 34) dX3_hashOfArrangements_34 ?_
  refine J_callS (g := mi_X3_mix) (pc := 35) [.long v8, .long v10.toInt64] [] ms_X3_mix w_567 (k_X3_mix v8 v10.toInt64 _) rfl rfl ⟨⟨Nat.le_of_ble_eq_true rfl, Nat.le_of_ble_eq_true rfl⟩, Nat.le_of_ble_eq_true rfl, Nat.le_of_ble_eq_true rfl⟩ (Nat.le_of_ble_eq_true rfl) dX3_hashOfArrangements_35 (Jk_v rfl rfl fun hok13 => ?_)
  obtain ⟨v14, e15, h⟩ := bnd_e h
  refine J_topl e15 ?_
  refine J_lstore_n (pc := 38) dX3_hashOfArrangements_38 rfl (Nat.le_of_ble_eq_true rfl) [1, 2, 0] rfl ?_
  refine J_lload_n (pc := 39) dX3_hashOfArrangements_39 rfl 2 rfl ?_
  refine J_LS [(0, .ref 0), (1, .long a1), (3, .long v14)] [.long v14] rfl rfl ?_
  refine J_aload_n (pc := 40) dX3_hashOfArrangements_40 rfl 0 rfl ?_
  refine get_0_3 (pc := 41) w_219 dX3_hashOfArrangements_41 ?_
  obtain ⟨v16, hc17, h⟩ := obind_e h
  refine J_callV (g := mi_X0_allArrangements) (ci := 0) (pc := 44) [] [.long v14] mv_X0_allArrangements w_547 (k_X0_allArrangements _ hc17) rfl (by decide) rfl rfl rfl ⟨⟨Nat.le_of_ble_eq_true rfl, Nat.le_of_ble_eq_true rfl⟩, Nat.le_of_ble_eq_true rfl, Nat.le_of_ble_eq_true rfl⟩ (Nat.le_of_ble_eq_true rfl) dX3_hashOfArrangements_44 (Jk_v rfl rfl fun hok18 => ?_)
  refine J_i2l (pc := 47) dX3_hashOfArrangements_47 ?_
  refine J_callS (g := mi_X3_mix) (pc := 48) [.long v14, .long v16.toInt64] [] ms_X3_mix w_567 (k_X3_mix v14 v16.toInt64 _) rfl rfl ⟨⟨Nat.le_of_ble_eq_true rfl, Nat.le_of_ble_eq_true rfl⟩, Nat.le_of_ble_eq_true rfl, Nat.le_of_ble_eq_true rfl⟩ (Nat.le_of_ble_eq_true rfl) dX3_hashOfArrangements_48 (Jk_v rfl rfl fun hok19 => ?_)
  cases h
  exact J_lreturn dX3_hashOfArrangements_51 rfl rfl rfl rfl rfl
set_option maxHeartbeats 4000000 in
set_option maxRecDepth 100000 in
theorem kL_X3_hashOfCars_L5 {κ : Kx} {E : En} {Q : State → Prop} {ρ : Type} {r : ρ} (M : Wd) (K125 : Int64 → Option ρ) (hK125 : ∀ (x3 : Int64), K125 x3 = some r → J κ E mi_X3_hashOfCars Q 0 0 [(3, .long x3)] M 125 []) : ∀ (m : Nat) (x3 : Int64) (x5 : Int32), F_X3_hashOfCars_L5 M K125 m x3 x5 = some r → J κ E mi_X3_hashOfCars Q 0 0 [(0, .ref 0), (3, .long x3), (5, .int x5)] M 5 [] := by
  intro m
  induction m with
  | zero => intro x3 x5 h; exact (nomatch (show (none : Option ρ) = some r from h))
  | succ m ih =>
    intro x3 x5 h
    unfold F_X3_hashOfCars_L5 at h
    refine J_iload (pc := 5) dX3_hashOfCars_5 2 rfl ?_
    refine J_aload_n (pc := 7) dX3_hashOfCars_7 rfl 0 rfl ?_
    refine J_LS [(0, .ref 0), (3, .long x3), (5, .int x5)] [.ref 0, .int x5] rfl rfl ?_
    refine get_0_0 (pc := 8) w_216 dX3_hashOfCars_8 ?_
    refine get_1_5 (pc := 11) w_123 dX3_hashOfCars_11 ?_
    refine J_icmp_ge (pc := 14) (tgt := 125) dX3_hashOfCars_14 (by decide) (fun c1 => ?_) (fun c1 => ?_)
    · replace h := ifp c1 h
      refine J_sub [1] rfl ?_
      exact hK125 _ h
    · replace h := ifn c1 h
      refine J_iload (pc := 17) dX3_hashOfCars_17 2 rfl ?_
      refine J_bipush (v := (6 : Int32)) (pc := 19) dX3_hashOfCars_19 (by decide) ?_
      refine J_icmp_ge (pc := 21) (tgt := 125) dX3_hashOfCars_21 (by decide) (fun c2 => ?_) (fun c2 => ?_)
      · replace h := ifp c2 h
        refine J_sub [1] rfl ?_
        exact hK125 _ h
      · replace h := ifn c2 h
        refine J_lload_n (pc := 24) dX3_hashOfCars_24 rfl 1 rfl ?_
        refine J_LS [(0, .ref 0), (3, .long x3), (5, .int x5)] [.long x3] rfl rfl ?_
        refine J_aload_n (pc := 25) dX3_hashOfCars_25 rfl 0 rfl ?_
        refine get_0_0 (pc := 26) w_216 dX3_hashOfCars_26 ?_
        refine get_1_0 (pc := 29) w_111 dX3_hashOfCars_29 ?_
        refine J_iload (pc := 32) dX3_hashOfCars_32 2 rfl ?_
        refine J_LS [(0, .ref 0), (3, .long x3), (5, .int x5)] [.int x5, .ref 2, .long x3] rfl rfl ?_
        obtain ⟨v3, e4, hk5, h⟩ := ldi_e h
        refine J_iald (c := 2) (N := 6) (pc := 34) ja_2 (Nat.le_of_ble_eq_true rfl) hk5 dX3_hashOfCars_34 ?_
        refine J_topi e4 ?_
        refine J_i2l (pc := 35) dX3_hashOfCars_35 ?_
        refine J_callS (g := mi_X3_mix) (pc := 36) [.long x3, .long v3.toInt64] [] ms_X3_mix w_567 (k_X3_mix x3 v3.toInt64 _) rfl rfl ⟨⟨Nat.le_of_ble_eq_true rfl, Nat.le_of_ble_eq_true rfl⟩, Nat.le_of_ble_eq_true rfl, Nat.le_of_ble_eq_true rfl⟩ (Nat.le_of_ble_eq_true rfl) dX3_hashOfCars_36 (Jk_v rfl rfl fun hok6 => ?_)
        obtain ⟨v7, e8, h⟩ := bnd_e h
        refine J_topl e8 ?_
        refine J_lstore_n (pc := 39) dX3_hashOfCars_39 rfl (Nat.le_of_ble_eq_true rfl) [1, 0, 2] rfl ?_
        refine J_lload_n (pc := 40) dX3_hashOfCars_40 rfl 1 rfl ?_
        refine J_LS [(0, .ref 0), (3, .long v7), (5, .int x5)] [.long v7] rfl rfl ?_
        refine J_aload_n (pc := 41) dX3_hashOfCars_41 rfl 0 rfl ?_
        refine get_0_0 (pc := 42) w_216 dX3_hashOfCars_42 ?_
        refine get_1_1 (pc := 45) w_114 dX3_hashOfCars_45 ?_
        refine J_iload (pc := 48) dX3_hashOfCars_48 2 rfl ?_
        refine J_LS [(0, .ref 0), (3, .long v7), (5, .int x5)] [.int x5, .ref 3, .long v7] rfl rfl ?_
        obtain ⟨v9, e10, hk11, h⟩ := ldi_e h
        refine J_iald (c := 3) (N := 6) (pc := 50) ja_3 (Nat.le_of_ble_eq_true rfl) hk11 dX3_hashOfCars_50 ?_
        refine J_topi e10 ?_
        refine J_i2l (pc := 51) dX3_hashOfCars_51 ?_
        refine J_callS (g := mi_X3_mix) (pc := 52) [.long v7, .long v9.toInt64] [] ms_X3_mix w_567 (k_X3_mix v7 v9.toInt64 _) rfl rfl ⟨⟨Nat.le_of_ble_eq_true rfl, Nat.le_of_ble_eq_true rfl⟩, Nat.le_of_ble_eq_true rfl, Nat.le_of_ble_eq_true rfl⟩ (Nat.le_of_ble_eq_true rfl) dX3_hashOfCars_52 (Jk_v rfl rfl fun hok12 => ?_)
        obtain ⟨v13, e14, h⟩ := bnd_e h
        refine J_topl e14 ?_
        refine J_lstore_n (pc := 55) dX3_hashOfCars_55 rfl (Nat.le_of_ble_eq_true rfl) [1, 0, 2] rfl ?_
        refine J_lload_n (pc := 56) dX3_hashOfCars_56 rfl 1 rfl ?_
        refine J_LS [(0, .ref 0), (3, .long v13), (5, .int x5)] [.long v13] rfl rfl ?_
        refine J_aload_n (pc := 57) dX3_hashOfCars_57 rfl 0 rfl ?_
        refine get_0_0 (pc := 58) w_216 dX3_hashOfCars_58 ?_
        refine get_1_2 (pc := 61) w_117 dX3_hashOfCars_61 ?_
        refine J_iload (pc := 64) dX3_hashOfCars_64 2 rfl ?_
        refine J_LS [(0, .ref 0), (3, .long v13), (5, .int x5)] [.int x5, .ref 4, .long v13] rfl rfl ?_
        obtain ⟨v15, e16, hk17, h⟩ := ldi_e h
        refine J_iald (c := 4) (N := 6) (pc := 66) ja_4 (Nat.le_of_ble_eq_true rfl) hk17 dX3_hashOfCars_66 ?_
        refine J_topi e16 ?_
        refine J_i2l (pc := 67) dX3_hashOfCars_67 ?_
        refine J_callS (g := mi_X3_mix) (pc := 68) [.long v13, .long v15.toInt64] [] ms_X3_mix w_567 (k_X3_mix v13 v15.toInt64 _) rfl rfl ⟨⟨Nat.le_of_ble_eq_true rfl, Nat.le_of_ble_eq_true rfl⟩, Nat.le_of_ble_eq_true rfl, Nat.le_of_ble_eq_true rfl⟩ (Nat.le_of_ble_eq_true rfl) dX3_hashOfCars_68 (Jk_v rfl rfl fun hok18 => ?_)
        obtain ⟨v19, e20, h⟩ := bnd_e h
        refine J_topl e20 ?_
        refine J_lstore_n (pc := 71) dX3_hashOfCars_71 rfl (Nat.le_of_ble_eq_true rfl) [1, 0, 2] rfl ?_
        refine J_lload_n (pc := 72) dX3_hashOfCars_72 rfl 1 rfl ?_
        refine J_LS [(0, .ref 0), (3, .long v19), (5, .int x5)] [.long v19] rfl rfl ?_
        refine J_aload_n (pc := 73) dX3_hashOfCars_73 rfl 0 rfl ?_
        refine get_0_0 (pc := 74) w_216 dX3_hashOfCars_74 ?_
        refine J_iload (pc := 77) dX3_hashOfCars_77 2 rfl ?_
        refine J_LS [(0, .ref 0), (3, .long v19), (5, .int x5)] [.int x5, .ref 1, .long v19] rfl rfl ?_
        obtain ⟨v21, hc22, h⟩ := obind_e h
        refine J_callV (g := mi_X1_loggedSteps) (ci := 1) (pc := 79) [.int x5] [.long v19] mv_X1_loggedSteps w_599 (k_X1_loggedSteps x5 _ hc22) rfl (by decide) rfl rfl rfl ⟨⟨Nat.le_of_ble_eq_true rfl, Nat.le_of_ble_eq_true rfl⟩, Nat.le_of_ble_eq_true rfl, Nat.le_of_ble_eq_true rfl⟩ (Nat.le_of_ble_eq_true rfl) dX3_hashOfCars_79 (Jk_v rfl rfl fun hok23 => ?_)
        refine J_i2l (pc := 82) dX3_hashOfCars_82 ?_
        refine J_callS (g := mi_X3_mix) (pc := 83) [.long v19, .long v21.toInt64] [] ms_X3_mix w_567 (k_X3_mix v19 v21.toInt64 _) rfl rfl ⟨⟨Nat.le_of_ble_eq_true rfl, Nat.le_of_ble_eq_true rfl⟩, Nat.le_of_ble_eq_true rfl, Nat.le_of_ble_eq_true rfl⟩ (Nat.le_of_ble_eq_true rfl) dX3_hashOfCars_83 (Jk_v rfl rfl fun hok24 => ?_)
        obtain ⟨v25, e26, h⟩ := bnd_e h
        refine J_topl e26 ?_
        refine J_lstore_n (pc := 86) dX3_hashOfCars_86 rfl (Nat.le_of_ble_eq_true rfl) [1, 0, 2] rfl ?_
        refine J_lload_n (pc := 87) dX3_hashOfCars_87 rfl 1 rfl ?_
        refine J_LS [(0, .ref 0), (3, .long v25), (5, .int x5)] [.long v25] rfl rfl ?_
        refine J_aload_n (pc := 88) dX3_hashOfCars_88 rfl 0 rfl ?_
        refine get_0_0 (pc := 89) w_216 dX3_hashOfCars_89 ?_
        refine J_iload (pc := 92) dX3_hashOfCars_92 2 rfl ?_
        refine J_LS [(0, .ref 0), (3, .long v25), (5, .int x5)] [.int x5, .ref 1, .long v25] rfl rfl ?_
        refine J_iconst (v := (1 : Int32)) (pc := 94) dX3_hashOfCars_94 (by decide) ?_
        obtain ⟨v27, hc28, h⟩ := obind_e h
        refine J_callV (g := mi_X1_roomOf) (ci := 1) (pc := 95) [.int x5, .int (1 : Int32)] [.long v25] mv_X1_roomOf w_357 (k_X1_roomOf x5 (1 : Int32) _ hc28) rfl (by decide) rfl rfl rfl ⟨⟨Nat.le_of_ble_eq_true rfl, Nat.le_of_ble_eq_true rfl⟩, Nat.le_of_ble_eq_true rfl, Nat.le_of_ble_eq_true rfl⟩ (Nat.le_of_ble_eq_true rfl) dX3_hashOfCars_95 (Jk_v rfl rfl fun hok29 => ?_)
        refine J_i2l (pc := 98) dX3_hashOfCars_98 ?_
        refine J_callS (g := mi_X3_mix) (pc := 99) [.long v25, .long v27.toInt64] [] ms_X3_mix w_567 (k_X3_mix v25 v27.toInt64 _) rfl rfl ⟨⟨Nat.le_of_ble_eq_true rfl, Nat.le_of_ble_eq_true rfl⟩, Nat.le_of_ble_eq_true rfl, Nat.le_of_ble_eq_true rfl⟩ (Nat.le_of_ble_eq_true rfl) dX3_hashOfCars_99 (Jk_v rfl rfl fun hok30 => ?_)
        obtain ⟨v31, e32, h⟩ := bnd_e h
        refine J_topl e32 ?_
        refine J_lstore_n (pc := 102) dX3_hashOfCars_102 rfl (Nat.le_of_ble_eq_true rfl) [1, 0, 2] rfl ?_
        refine J_lload_n (pc := 103) dX3_hashOfCars_103 rfl 1 rfl ?_
        refine J_LS [(0, .ref 0), (3, .long v31), (5, .int x5)] [.long v31] rfl rfl ?_
        refine J_aload_n (pc := 104) dX3_hashOfCars_104 rfl 0 rfl ?_
        refine get_0_0 (pc := 105) w_216 dX3_hashOfCars_105 ?_
        refine J_iload (pc := 108) dX3_hashOfCars_108 2 rfl ?_
        refine J_LS [(0, .ref 0), (3, .long v31), (5, .int x5)] [.int x5, .ref 1, .long v31] rfl rfl ?_
        refine J_iconst (v := (-1 : Int32)) (pc := 110) dX3_hashOfCars_110 (by decide) ?_
        obtain ⟨v33, hc34, h⟩ := obind_e h
        refine J_callV (g := mi_X1_roomOf) (ci := 1) (pc := 111) [.int x5, .int (-1 : Int32)] [.long v31] mv_X1_roomOf w_357 (k_X1_roomOf x5 (-1 : Int32) _ hc34) rfl (by decide) rfl rfl rfl ⟨⟨Nat.le_of_ble_eq_true rfl, Nat.le_of_ble_eq_true rfl⟩, Nat.le_of_ble_eq_true rfl, Nat.le_of_ble_eq_true rfl⟩ (Nat.le_of_ble_eq_true rfl) dX3_hashOfCars_111 (Jk_v rfl rfl fun hok35 => ?_)
        refine J_i2l (pc := 114) dX3_hashOfCars_114 ?_
        refine J_callS (g := mi_X3_mix) (pc := 115) [.long v31, .long v33.toInt64] [] ms_X3_mix w_567 (k_X3_mix v31 v33.toInt64 _) rfl rfl ⟨⟨Nat.le_of_ble_eq_true rfl, Nat.le_of_ble_eq_true rfl⟩, Nat.le_of_ble_eq_true rfl, Nat.le_of_ble_eq_true rfl⟩ (Nat.le_of_ble_eq_true rfl) dX3_hashOfCars_115 (Jk_v rfl rfl fun hok36 => ?_)
        obtain ⟨v37, e38, h⟩ := bnd_e h
        refine J_topl e38 ?_
        refine J_lstore_n (pc := 118) dX3_hashOfCars_118 rfl (Nat.le_of_ble_eq_true rfl) [1, 0, 2] rfl ?_
        obtain ⟨v39, e40, h⟩ := bnd_e h
        refine J_iinc (v := v39) (pc := 119) dX3_hashOfCars_119 2 rfl (by rw [e40]; rfl) (Nat.le_of_ble_eq_true rfl) [1, 2, 0] rfl ?_
        refine J_goto (pc := 122) (tgt := 5) dX3_hashOfCars_122 (by decide) ?_
        exact ih _ _ h
set_option maxHeartbeats 4000000 in
set_option maxRecDepth 100000 in
theorem k_X3_hashOfCars {E : En} (a1 : Int64) (M : Wd) {r : Int64} (h : F_X3_hashOfCars a1 M = some r) : Con E mi_X3_hashOfCars [.ref 0, .long a1] M (.inl (some (.long r))) M := by
  unfold F_X3_hashOfCars at h
  refine Con.of (by decide) rfl (Nat.le_of_ble_eq_true rfl) (fun κ => ?_)
  show J κ E mi_X3_hashOfCars _ 0 0 [(0, .ref 0), (1, .long a1)] M 0 []
  refine J_lload_n (pc := 0) dX3_hashOfCars_0 rfl 1 rfl ?_
  refine J_lstore_n (pc := 1) dX3_hashOfCars_1 rfl (Nat.le_of_ble_eq_true rfl) [1, 2, 0] rfl ?_
  refine J_LS [(0, .ref 0), (1, .long a1), (3, .long a1)] [] rfl rfl ?_
  refine J_iconst (v := (0 : Int32)) (pc := 2) dX3_hashOfCars_2 (by decide) ?_
  refine J_istore (pc := 3) dX3_hashOfCars_3 (Nat.le_of_ble_eq_true rfl) [1, 2, 3, 0] rfl ?_
  refine J_sub [0, 2, 3] rfl ?_
  refine kL_X3_hashOfCars_L5 _ _ (fun v41 h => ?_) fuelN _ _ h
  refine J_lload_n (pc := 125) dX3_hashOfCars_125 rfl 0 rfl ?_
  refine J_LS [(3, .long v41)] [.long v41] rfl rfl ?_
  cases h
  exact J_lreturn dX3_hashOfCars_126 rfl rfl rfl rfl rfl
set_option maxHeartbeats 4000000 in
set_option maxRecDepth 100000 in
theorem kL_X3_hashOfCells_L5 {κ : Kx} {E : En} {Q : State → Prop} {ρ : Type} {r : ρ} (M : Wd) (K55 : Int64 → Option ρ) (hK55 : ∀ (x3 : Int64), K55 x3 = some r → J κ E mi_X3_hashOfCells Q 0 0 [(3, .long x3)] M 55 []) : ∀ (m : Nat) (x3 : Int64) (x5 : Int32), F_X3_hashOfCells_L5 M K55 m x3 x5 = some r → J κ E mi_X3_hashOfCells Q 0 0 [(0, .ref 0), (3, .long x3), (5, .int x5)] M 5 [] := by
  intro m
  induction m with
  | zero => intro x3 x5 h; exact (nomatch (show (none : Option ρ) = some r from h))
  | succ m ih =>
    intro x3 x5 h
    unfold F_X3_hashOfCells_L5 at h
    refine J_iload (pc := 5) dX3_hashOfCells_5 2 rfl ?_
    refine J_bipush (v := (25 : Int32)) (pc := 7) dX3_hashOfCells_7 (by decide) ?_
    refine J_icmp_ge (pc := 9) (tgt := 55) dX3_hashOfCells_9 (by decide) (fun c1 => ?_) (fun c1 => ?_)
    · replace h := ifp c1 h
      refine J_sub [1] rfl ?_
      exact hK55 _ h
    · replace h := ifn c1 h
      refine J_lload_n (pc := 12) dX3_hashOfCells_12 rfl 1 rfl ?_
      refine J_LS [(0, .ref 0), (3, .long x3), (5, .int x5)] [.long x3] rfl rfl ?_
      refine J_aload_n (pc := 13) dX3_hashOfCells_13 rfl 0 rfl ?_
      refine get_0_0 (pc := 14) w_216 dX3_hashOfCells_14 ?_
      refine J_iload (pc := 17) dX3_hashOfCells_17 2 rfl ?_
      refine J_LS [(0, .ref 0), (3, .long x3), (5, .int x5)] [.int x5, .ref 1, .long x3] rfl rfl ?_
      obtain ⟨v2, hc3, h⟩ := obind_e h
      refine J_callV (g := mi_X1_carAt) (ci := 1) (pc := 19) [.int x5] [.long x3] mv_X1_carAt w_587 (k_X1_carAt x5 _ hc3) rfl (by decide) rfl rfl rfl ⟨⟨Nat.le_of_ble_eq_true rfl, Nat.le_of_ble_eq_true rfl⟩, Nat.le_of_ble_eq_true rfl, Nat.le_of_ble_eq_true rfl⟩ (Nat.le_of_ble_eq_true rfl) dX3_hashOfCells_19 (Jk_v rfl rfl fun hok4 => ?_)
      refine J_i2l (pc := 22) dX3_hashOfCells_22 ?_
      refine J_callS (g := mi_X3_mix) (pc := 23) [.long x3, .long v2.toInt64] [] ms_X3_mix w_567 (k_X3_mix x3 v2.toInt64 _) rfl rfl ⟨⟨Nat.le_of_ble_eq_true rfl, Nat.le_of_ble_eq_true rfl⟩, Nat.le_of_ble_eq_true rfl, Nat.le_of_ble_eq_true rfl⟩ (Nat.le_of_ble_eq_true rfl) dX3_hashOfCells_23 (Jk_v rfl rfl fun hok5 => ?_)
      obtain ⟨v6, e7, h⟩ := bnd_e h
      refine J_topl e7 ?_
      refine J_lstore_n (pc := 26) dX3_hashOfCells_26 rfl (Nat.le_of_ble_eq_true rfl) [1, 0, 2] rfl ?_
      refine J_lload_n (pc := 27) dX3_hashOfCells_27 rfl 1 rfl ?_
      refine J_LS [(0, .ref 0), (3, .long v6), (5, .int x5)] [.long v6] rfl rfl ?_
      refine J_aload_n (pc := 28) dX3_hashOfCells_28 rfl 0 rfl ?_
      refine get_0_0 (pc := 29) w_216 dX3_hashOfCells_29 ?_
      refine J_iload (pc := 32) dX3_hashOfCells_32 2 rfl ?_
      refine J_LS [(0, .ref 0), (3, .long v6), (5, .int x5)] [.int x5, .ref 1, .long v6] rfl rfl ?_
      refine J_callV (g := mi_X1_hasWallAt) (ci := 1) (pc := 34) [.int x5] [.long v6] mv_X1_hasWallAt w_591 (k_X1_hasWallAt x5 _) rfl (by decide) rfl rfl rfl ⟨⟨Nat.le_of_ble_eq_true rfl, Nat.le_of_ble_eq_true rfl⟩, Nat.le_of_ble_eq_true rfl, Nat.le_of_ble_eq_true rfl⟩ (Nat.le_of_ble_eq_true rfl) dX3_hashOfCells_34 (Jk_v rfl rfl fun hok8 => ?_)
      obtain ⟨v9, e10, h⟩ := bnd_e h
      refine J_join [(0, .ref 0), (5, .int x5)] M 45 [.long v9, .long v6] ?_ (fun hJ => ?_)
      · refine J_callS (g := mi_X3_mix) (pc := 45) [.long v6, .long v9] [] ms_X3_mix w_567 (k_X3_mix v6 v9 _) rfl rfl ⟨⟨Nat.le_of_ble_eq_true rfl, Nat.le_of_ble_eq_true rfl⟩, Nat.le_of_ble_eq_true rfl, Nat.le_of_ble_eq_true rfl⟩ (Nat.le_of_ble_eq_true rfl) dX3_hashOfCells_45 (Jk_v rfl rfl fun hok12 => ?_)
        obtain ⟨v13, e14, h⟩ := bnd_e h
        refine J_topl e14 ?_
        refine J_lstore_n (pc := 48) dX3_hashOfCells_48 rfl (Nat.le_of_ble_eq_true rfl) [1, 0, 2] rfl ?_
        obtain ⟨v15, e16, h⟩ := bnd_e h
        refine J_iinc (v := v15) (pc := 49) dX3_hashOfCells_49 2 rfl (by rw [e16]; rfl) (Nat.le_of_ble_eq_true rfl) [1, 2, 0] rfl ?_
        refine J_goto (pc := 52) (tgt := 5) dX3_hashOfCells_52 (by decide) ?_
        exact ih _ _ h
      · refine J_if_eq (pc := 37) (tgt := 44) dX3_hashOfCells_37 (by decide) (fun c11 => ?_) (fun c11 => ?_)
        · refine J_lconst (v := (0 : Int64)) (pc := 44) dX3_hashOfCells_44 (by decide) ?_
          refine J_sub [0, 2] rfl ?_
          refine J_topl (y := v9) (by rw [e10, if_pos c11]) ?_
          exact hJ
        · refine J_lconst (v := (1 : Int64)) (pc := 40) dX3_hashOfCells_40 (by decide) ?_
          refine J_goto (pc := 41) (tgt := 45) dX3_hashOfCells_41 (by decide) ?_
          refine J_sub [0, 2] rfl ?_
          refine J_topl (y := v9) (by rw [e10, if_neg c11]) ?_
          exact hJ
set_option maxHeartbeats 4000000 in
set_option maxRecDepth 100000 in
theorem k_X3_hashOfCells {E : En} (a1 : Int64) (M : Wd) {r : Int64} (h : F_X3_hashOfCells a1 M = some r) : Con E mi_X3_hashOfCells [.ref 0, .long a1] M (.inl (some (.long r))) M := by
  unfold F_X3_hashOfCells at h
  refine Con.of (by decide) rfl (Nat.le_of_ble_eq_true rfl) (fun κ => ?_)
  show J κ E mi_X3_hashOfCells _ 0 0 [(0, .ref 0), (1, .long a1)] M 0 []
  refine J_lload_n (pc := 0) dX3_hashOfCells_0 rfl 1 rfl ?_
  refine J_lstore_n (pc := 1) dX3_hashOfCells_1 rfl (Nat.le_of_ble_eq_true rfl) [1, 2, 0] rfl ?_
  refine J_LS [(0, .ref 0), (1, .long a1), (3, .long a1)] [] rfl rfl ?_
  refine J_iconst (v := (0 : Int32)) (pc := 2) dX3_hashOfCells_2 (by decide) ?_
  refine J_istore (pc := 3) dX3_hashOfCells_3 (Nat.le_of_ble_eq_true rfl) [1, 2, 3, 0] rfl ?_
  refine J_sub [0, 2, 3] rfl ?_
  refine kL_X3_hashOfCells_L5 _ _ (fun v17 h => ?_) fuelN _ _ h
  refine J_lload_n (pc := 55) dX3_hashOfCells_55 rfl 0 rfl ?_
  refine J_LS [(3, .long v17)] [.long v17] rfl rfl ?_
  cases h
  exact J_lreturn dX3_hashOfCells_56 rfl rfl rfl rfl rfl
set_option maxHeartbeats 4000000 in
set_option maxRecDepth 100000 in
theorem kL_X3_hashOfLog_L5 {κ : Kx} {E : En} {Q : State → Prop} {ρ : Type} {r : ρ} (M : Wd) (K62 : Int64 → Option ρ) (hK62 : ∀ (x3 : Int64), K62 x3 = some r → J κ E mi_X3_hashOfLog Q 0 0 [(3, .long x3)] M 62 []) : ∀ (m : Nat) (x3 : Int64) (x5 : Int32), F_X3_hashOfLog_L5 M K62 m x3 x5 = some r → J κ E mi_X3_hashOfLog Q 0 0 [(0, .ref 0), (3, .long x3), (5, .int x5)] M 5 [] := by
  intro m
  induction m with
  | zero => intro x3 x5 h; exact (nomatch (show (none : Option ρ) = some r from h))
  | succ m ih =>
    intro x3 x5 h
    unfold F_X3_hashOfLog_L5 at h
    refine J_iload (pc := 5) dX3_hashOfLog_5 2 rfl ?_
    refine J_aload_n (pc := 7) dX3_hashOfLog_7 rfl 0 rfl ?_
    refine J_LS [(0, .ref 0), (3, .long x3), (5, .int x5)] [.ref 0, .int x5] rfl rfl ?_
    refine get_0_0 (pc := 8) w_216 dX3_hashOfLog_8 ?_
    refine get_1_7 (pc := 11) w_127 dX3_hashOfLog_11 ?_
    refine J_icmp_ge (pc := 14) (tgt := 62) dX3_hashOfLog_14 (by decide) (fun c1 => ?_) (fun c1 => ?_)
    · replace h := ifp c1 h
      refine J_sub [1] rfl ?_
      exact hK62 _ h
    · replace h := ifn c1 h
      refine J_iload (pc := 17) dX3_hashOfLog_17 2 rfl ?_
      refine J_bipush (v := (60 : Int32)) (pc := 19) dX3_hashOfLog_19 (by decide) ?_
      refine J_icmp_ge (pc := 21) (tgt := 62) dX3_hashOfLog_21 (by decide) (fun c2 => ?_) (fun c2 => ?_)
      · replace h := ifp c2 h
        refine J_sub [1] rfl ?_
        exact hK62 _ h
      · replace h := ifn c2 h
        refine J_lload_n (pc := 24) dX3_hashOfLog_24 rfl 1 rfl ?_
        refine J_LS [(0, .ref 0), (3, .long x3), (5, .int x5)] [.long x3] rfl rfl ?_
        refine J_aload_n (pc := 25) dX3_hashOfLog_25 rfl 0 rfl ?_
        refine get_0_0 (pc := 26) w_216 dX3_hashOfLog_26 ?_
        refine get_1_3 (pc := 29) w_119 dX3_hashOfLog_29 ?_
        refine J_iload (pc := 32) dX3_hashOfLog_32 2 rfl ?_
        refine J_LS [(0, .ref 0), (3, .long x3), (5, .int x5)] [.int x5, .ref 5, .long x3] rfl rfl ?_
        obtain ⟨v3, e4, hk5, h⟩ := ldi_e h
        refine J_iald (c := 5) (N := 60) (pc := 34) ja_5 (Nat.le_of_ble_eq_true rfl) hk5 dX3_hashOfLog_34 ?_
        refine J_topi e4 ?_
        refine J_i2l (pc := 35) dX3_hashOfLog_35 ?_
        refine J_callS (g := mi_X3_mix) (pc := 36) [.long x3, .long v3.toInt64] [] ms_X3_mix w_567 (k_X3_mix x3 v3.toInt64 _) rfl rfl ⟨⟨Nat.le_of_ble_eq_true rfl, Nat.le_of_ble_eq_true rfl⟩, Nat.le_of_ble_eq_true rfl, Nat.le_of_ble_eq_true rfl⟩ (Nat.le_of_ble_eq_true rfl) dX3_hashOfLog_36 (Jk_v rfl rfl fun hok6 => ?_)
        obtain ⟨v7, e8, h⟩ := bnd_e h
        refine J_topl e8 ?_
        refine J_lstore_n (pc := 39) dX3_hashOfLog_39 rfl (Nat.le_of_ble_eq_true rfl) [1, 0, 2] rfl ?_
        refine J_lload_n (pc := 40) dX3_hashOfLog_40 rfl 1 rfl ?_
        refine J_LS [(0, .ref 0), (3, .long v7), (5, .int x5)] [.long v7] rfl rfl ?_
        refine J_aload_n (pc := 41) dX3_hashOfLog_41 rfl 0 rfl ?_
        refine get_0_0 (pc := 42) w_216 dX3_hashOfLog_42 ?_
        refine get_1_4 (pc := 45) w_121 dX3_hashOfLog_45 ?_
        refine J_iload (pc := 48) dX3_hashOfLog_48 2 rfl ?_
        refine J_LS [(0, .ref 0), (3, .long v7), (5, .int x5)] [.int x5, .ref 6, .long v7] rfl rfl ?_
        obtain ⟨v9, e10, hk11, h⟩ := ldi_e h
        refine J_iald (c := 6) (N := 60) (pc := 50) ja_6 (Nat.le_of_ble_eq_true rfl) hk11 dX3_hashOfLog_50 ?_
        refine J_topi e10 ?_
        refine J_i2l (pc := 51) dX3_hashOfLog_51 ?_
        refine J_callS (g := mi_X3_mix) (pc := 52) [.long v7, .long v9.toInt64] [] ms_X3_mix w_567 (k_X3_mix v7 v9.toInt64 _) rfl rfl ⟨⟨Nat.le_of_ble_eq_true rfl, Nat.le_of_ble_eq_true rfl⟩, Nat.le_of_ble_eq_true rfl, Nat.le_of_ble_eq_true rfl⟩ (Nat.le_of_ble_eq_true rfl) dX3_hashOfLog_52 (Jk_v rfl rfl fun hok12 => ?_)
        obtain ⟨v13, e14, h⟩ := bnd_e h
        refine J_topl e14 ?_
        refine J_lstore_n (pc := 55) dX3_hashOfLog_55 rfl (Nat.le_of_ble_eq_true rfl) [1, 0, 2] rfl ?_
        obtain ⟨v15, e16, h⟩ := bnd_e h
        refine J_iinc (v := v15) (pc := 56) dX3_hashOfLog_56 2 rfl (by rw [e16]; rfl) (Nat.le_of_ble_eq_true rfl) [1, 2, 0] rfl ?_
        refine J_goto (pc := 59) (tgt := 5) dX3_hashOfLog_59 (by decide) ?_
        exact ih _ _ h
set_option maxHeartbeats 4000000 in
set_option maxRecDepth 100000 in
theorem k_X3_hashOfLog {E : En} (a1 : Int64) (M : Wd) {r : Int64} (h : F_X3_hashOfLog a1 M = some r) : Con E mi_X3_hashOfLog [.ref 0, .long a1] M (.inl (some (.long r))) M := by
  unfold F_X3_hashOfLog at h
  refine Con.of (by decide) rfl (Nat.le_of_ble_eq_true rfl) (fun κ => ?_)
  show J κ E mi_X3_hashOfLog _ 0 0 [(0, .ref 0), (1, .long a1)] M 0 []
  refine J_lload_n (pc := 0) dX3_hashOfLog_0 rfl 1 rfl ?_
  refine J_lstore_n (pc := 1) dX3_hashOfLog_1 rfl (Nat.le_of_ble_eq_true rfl) [1, 2, 0] rfl ?_
  refine J_LS [(0, .ref 0), (1, .long a1), (3, .long a1)] [] rfl rfl ?_
  refine J_iconst (v := (0 : Int32)) (pc := 2) dX3_hashOfLog_2 (by decide) ?_
  refine J_istore (pc := 3) dX3_hashOfLog_3 (Nat.le_of_ble_eq_true rfl) [1, 2, 3, 0] rfl ?_
  refine J_sub [0, 2, 3] rfl ?_
  refine kL_X3_hashOfLog_L5 _ _ (fun v17 h => ?_) fuelN _ _ h
  refine J_lload_n (pc := 62) dX3_hashOfLog_62 rfl 0 rfl ?_
  refine J_LS [(3, .long v17)] [.long v17] rfl rfl ?_
  cases h
  exact J_lreturn dX3_hashOfLog_63 rfl rfl rfl rfl rfl
set_option maxHeartbeats 4000000 in
set_option maxRecDepth 100000 in
theorem k_X3_hashOfPark {E : En} (a1 : Int64) (M : Wd) {r : Int64} (h : F_X3_hashOfPark a1 M = some r) : Con E mi_X3_hashOfPark [.ref 0, .long a1] M (.inl (some (.long r))) M := by
  unfold F_X3_hashOfPark at h
  refine Con.of (by decide) rfl (Nat.le_of_ble_eq_true rfl) (fun κ => ?_)
  show J κ E mi_X3_hashOfPark _ 0 0 [(0, .ref 0), (1, .long a1)] M 0 []
  refine J_lload_n (pc := 0) dX3_hashOfPark_0 rfl 1 rfl ?_
  refine J_aload_n (pc := 1) dX3_hashOfPark_1 rfl 0 rfl ?_
  refine J_LS [(0, .ref 0), (1, .long a1)] [.ref 0, .long a1] rfl rfl ?_
  refine get_0_0 (pc := 2) w_216 dX3_hashOfPark_2 ?_
  refine get_1_5 (pc := 5) w_123 dX3_hashOfPark_5 ?_
  refine J_i2l (pc := 8) dX3_hashOfPark_8 ?_
  refine J_callS (g := mi_X3_mix) (pc := 9) [.long a1, .long (M.1 1 5).toInt64] [] ms_X3_mix w_567 (k_X3_mix a1 (M.1 1 5).toInt64 _) rfl rfl ⟨⟨Nat.le_of_ble_eq_true rfl, Nat.le_of_ble_eq_true rfl⟩, Nat.le_of_ble_eq_true rfl, Nat.le_of_ble_eq_true rfl⟩ (Nat.le_of_ble_eq_true rfl) dX3_hashOfPark_9 (Jk_v rfl rfl fun hok1 => ?_)
  obtain ⟨v2, e3, h⟩ := bnd_e h
  refine J_topl e3 ?_
  refine J_lstore_n (pc := 12) dX3_hashOfPark_12 rfl (Nat.le_of_ble_eq_true rfl) [1, 2, 0] rfl ?_
  refine J_lload_n (pc := 13) dX3_hashOfPark_13 rfl 2 rfl ?_
  refine J_LS [(0, .ref 0), (1, .long a1), (3, .long v2)] [.long v2] rfl rfl ?_
  refine J_aload_n (pc := 14) dX3_hashOfPark_14 rfl 0 rfl ?_
  refine J_callV (g := mi_X3_walls) (ci := 3) (pc := 15) [] [.long v2] mv_X3_walls w_571 (k_X3_walls _) rfl (by decide) rfl rfl rfl ⟨⟨Nat.le_of_ble_eq_true rfl, Nat.le_of_ble_eq_true rfl⟩, Nat.le_of_ble_eq_true rfl, Nat.le_of_ble_eq_true rfl⟩ (Nat.le_of_ble_eq_true rfl) dX3_hashOfPark_15 (Jk_v rfl rfl fun hok4 => ?_)
  refine J_i2l (pc := 18) dX3_hashOfPark_18 ?_
  refine J_callS (g := mi_X3_mix) (pc := 19) [.long v2, .long (F_X3_walls M).toInt64] [] ms_X3_mix w_567 (k_X3_mix v2 (F_X3_walls M).toInt64 _) rfl rfl ⟨⟨Nat.le_of_ble_eq_true rfl, Nat.le_of_ble_eq_true rfl⟩, Nat.le_of_ble_eq_true rfl, Nat.le_of_ble_eq_true rfl⟩ (Nat.le_of_ble_eq_true rfl) dX3_hashOfPark_19 (Jk_v rfl rfl fun hok5 => ?_)
  obtain ⟨v6, e7, h⟩ := bnd_e h
  refine J_topl e7 ?_
  refine J_lstore_n (pc := 22) dX3_hashOfPark_22 rfl (Nat.le_of_ble_eq_true rfl) [1, 2, 0] rfl ?_
  refine J_LS [(0, .ref 0), (1, .long a1), (3, .long v6)] [] rfl rfl ?_
  refine J_lload_n (pc := 23) dX3_hashOfPark_23 rfl 2 rfl ?_
  refine J_aload_n (pc := 24) dX3_hashOfPark_24 rfl 0 rfl ?_
  refine J_LS [(0, .ref 0), (1, .long a1), (3, .long v6)] [.ref 0, .long v6] rfl rfl ?_
  obtain ⟨v8, hc9, h⟩ := obind_e h
  refine J_callV (g := mi_X3_freeCells) (ci := 3) (pc := 25) [] [.long v6] mv_X3_freeCells w_572 (k_X3_freeCells _ hc9) rfl (by decide) rfl rfl rfl ⟨⟨Nat.le_of_ble_eq_true rfl, Nat.le_of_ble_eq_true rfl⟩, Nat.le_of_ble_eq_true rfl, Nat.le_of_ble_eq_true rfl⟩ (Nat.le_of_ble_eq_true rfl) dX3_hashOfPark_25 (Jk_v rfl rfl fun hok10 => ?_)
  refine J_i2l (pc := 28) dX3_hashOfPark_28 ?_
  refine J_callS (g := mi_X3_mix) (pc := 29) [.long v6, .long v8.toInt64] [] ms_X3_mix w_567 (k_X3_mix v6 v8.toInt64 _) rfl rfl ⟨⟨Nat.le_of_ble_eq_true rfl, Nat.le_of_ble_eq_true rfl⟩, Nat.le_of_ble_eq_true rfl, Nat.le_of_ble_eq_true rfl⟩ (Nat.le_of_ble_eq_true rfl) dX3_hashOfPark_29 (Jk_v rfl rfl fun hok11 => ?_)
  obtain ⟨v12, e13, h⟩ := bnd_e h
  refine J_topl e13 ?_
  refine J_lstore_n (pc := 32) dX3_hashOfPark_32 rfl (Nat.le_of_ble_eq_true rfl) [1, 2, 0] rfl ?_
  refine J_lload_n (pc := 33) dX3_hashOfPark_33 rfl 2 rfl ?_
  refine J_LS [(0, .ref 0), (1, .long a1), (3, .long v12)] [.long v12] rfl rfl ?_
  refine J_aload_n (pc := 34) dX3_hashOfPark_34 rfl 0 rfl ?_
  refine J_callV (g := mi_X3_isOut) (ci := 3) (pc := 35) [] [.long v12] mv_X3_isOut w_573 (k_X3_isOut _) rfl (by decide) rfl rfl rfl ⟨⟨Nat.le_of_ble_eq_true rfl, Nat.le_of_ble_eq_true rfl⟩, Nat.le_of_ble_eq_true rfl, Nat.le_of_ble_eq_true rfl⟩ (Nat.le_of_ble_eq_true rfl) dX3_hashOfPark_35 (Jk_v rfl rfl fun hok14 => ?_)
  obtain ⟨v15, e16, h⟩ := bnd_e h
  refine J_join [(0, .ref 0)] M 46 [.long v15, .long v12] ?_ (fun hJ => ?_)
  · refine J_callS (g := mi_X3_mix) (pc := 46) [.long v12, .long v15] [] ms_X3_mix w_567 (k_X3_mix v12 v15 _) rfl rfl ⟨⟨Nat.le_of_ble_eq_true rfl, Nat.le_of_ble_eq_true rfl⟩, Nat.le_of_ble_eq_true rfl, Nat.le_of_ble_eq_true rfl⟩ (Nat.le_of_ble_eq_true rfl) dX3_hashOfPark_46 (Jk_v rfl rfl fun hok18 => ?_)
    obtain ⟨v19, e20, h⟩ := bnd_e h
    refine J_topl e20 ?_
    refine J_lstore_n (pc := 49) dX3_hashOfPark_49 rfl (Nat.le_of_ble_eq_true rfl) [1, 0] rfl ?_
    refine J_lload_n (pc := 50) dX3_hashOfPark_50 rfl 1 rfl ?_
    refine J_LS [(0, .ref 0), (3, .long v19)] [.long v19] rfl rfl ?_
    refine J_aload_n (pc := 51) dX3_hashOfPark_51 rfl 0 rfl ?_
    obtain ⟨v21, hc22, h⟩ := obind_e h
    refine J_callV (g := mi_X3_possibleSlides) (ci := 3) (pc := 52) [] [.long v19] mv_X3_possibleSlides w_574 (k_X3_possibleSlides _ hc22) rfl (by decide) rfl rfl rfl ⟨⟨Nat.le_of_ble_eq_true rfl, Nat.le_of_ble_eq_true rfl⟩, Nat.le_of_ble_eq_true rfl, Nat.le_of_ble_eq_true rfl⟩ (Nat.le_of_ble_eq_true rfl) dX3_hashOfPark_52 (Jk_v rfl rfl fun hok23 => ?_)
    refine J_i2l (pc := 55) dX3_hashOfPark_55 ?_
    refine J_callS (g := mi_X3_mix) (pc := 56) [.long v19, .long v21.toInt64] [] ms_X3_mix w_567 (k_X3_mix v19 v21.toInt64 _) rfl rfl ⟨⟨Nat.le_of_ble_eq_true rfl, Nat.le_of_ble_eq_true rfl⟩, Nat.le_of_ble_eq_true rfl, Nat.le_of_ble_eq_true rfl⟩ (Nat.le_of_ble_eq_true rfl) dX3_hashOfPark_56 (Jk_v rfl rfl fun hok24 => ?_)
    obtain ⟨v25, e26, h⟩ := bnd_e h
    refine J_topl e26 ?_
    refine J_lstore_n (pc := 59) dX3_hashOfPark_59 rfl (Nat.le_of_ble_eq_true rfl) [1, 0] rfl ?_
    refine J_LS [(0, .ref 0), (3, .long v25)] [] rfl rfl ?_
    refine J_lload_n (pc := 60) dX3_hashOfPark_60 rfl 1 rfl ?_
    refine J_aload_n (pc := 61) dX3_hashOfPark_61 rfl 0 rfl ?_
    refine J_LS [(0, .ref 0), (3, .long v25)] [.ref 0, .long v25] rfl rfl ?_
    refine get_0_0 (pc := 62) w_216 dX3_hashOfPark_62 ?_
    refine get_1_7 (pc := 65) w_127 dX3_hashOfPark_65 ?_
    refine J_i2l (pc := 68) dX3_hashOfPark_68 ?_
    refine J_callS (g := mi_X3_mix) (pc := 69) [.long v25, .long (M.1 1 7).toInt64] [] ms_X3_mix w_567 (k_X3_mix v25 (M.1 1 7).toInt64 _) rfl rfl ⟨⟨Nat.le_of_ble_eq_true rfl, Nat.le_of_ble_eq_true rfl⟩, Nat.le_of_ble_eq_true rfl, Nat.le_of_ble_eq_true rfl⟩ (Nat.le_of_ble_eq_true rfl) dX3_hashOfPark_69 (Jk_v rfl rfl fun hok27 => ?_)
    obtain ⟨v28, e29, h⟩ := bnd_e h
    refine J_topl e29 ?_
    refine J_lstore_n (pc := 72) dX3_hashOfPark_72 rfl (Nat.le_of_ble_eq_true rfl) [1, 0] rfl ?_
    refine J_lload_n (pc := 73) dX3_hashOfPark_73 rfl 1 rfl ?_
    refine J_LS [(0, .ref 0), (3, .long v28)] [.long v28] rfl rfl ?_
    refine J_aload_n (pc := 74) dX3_hashOfPark_74 rfl 0 rfl ?_
    refine get_0_0 (pc := 75) w_216 dX3_hashOfPark_75 ?_
    obtain ⟨v30, hc31, h⟩ := obind_e h
    refine J_callV (g := mi_X1_fuelSlideBySlide) (ci := 1) (pc := 78) [] [.long v28] mv_X1_fuelSlideBySlide w_373 (k_X1_fuelSlideBySlide _ hc31) rfl (by decide) rfl rfl rfl ⟨⟨Nat.le_of_ble_eq_true rfl, Nat.le_of_ble_eq_true rfl⟩, Nat.le_of_ble_eq_true rfl, Nat.le_of_ble_eq_true rfl⟩ (Nat.le_of_ble_eq_true rfl) dX3_hashOfPark_78 (Jk_v rfl rfl fun hok32 => ?_)
    refine J_i2l (pc := 81) dX3_hashOfPark_81 ?_
    refine J_callS (g := mi_X3_mix) (pc := 82) [.long v28, .long v30.toInt64] [] ms_X3_mix w_567 (k_X3_mix v28 v30.toInt64 _) rfl rfl ⟨⟨Nat.le_of_ble_eq_true rfl, Nat.le_of_ble_eq_true rfl⟩, Nat.le_of_ble_eq_true rfl, Nat.le_of_ble_eq_true rfl⟩ (Nat.le_of_ble_eq_true rfl) dX3_hashOfPark_82 (Jk_v rfl rfl fun hok33 => ?_)
    obtain ⟨v34, e35, h⟩ := bnd_e h
    refine J_topl e35 ?_
    refine J_lstore_n (pc := 85) dX3_hashOfPark_85 rfl (Nat.le_of_ble_eq_true rfl) [1, 0] rfl ?_
    refine J_LS [(0, .ref 0), (3, .long v34)] [] rfl rfl ?_
    refine J_lload_n (pc := 86) dX3_hashOfPark_86 rfl 1 rfl ?_
    refine J_aload_n (pc := 87) dX3_hashOfPark_87 rfl 0 rfl ?_
    refine J_LS [(0, .ref 0), (3, .long v34)] [.ref 0, .long v34] rfl rfl ?_
    refine get_0_0 (pc := 88) w_216 dX3_hashOfPark_88 ?_
    obtain ⟨v36, hc37, h⟩ := obind_e h
    refine J_callV (g := mi_X1_fuelCarByCar) (ci := 1) (pc := 91) [] [.long v34] mv_X1_fuelCarByCar w_384 (k_X1_fuelCarByCar _ hc37) rfl (by decide) rfl rfl rfl ⟨⟨Nat.le_of_ble_eq_true rfl, Nat.le_of_ble_eq_true rfl⟩, Nat.le_of_ble_eq_true rfl, Nat.le_of_ble_eq_true rfl⟩ (Nat.le_of_ble_eq_true rfl) dX3_hashOfPark_91 (Jk_v rfl rfl fun hok38 => ?_)
    refine J_i2l (pc := 94) dX3_hashOfPark_94 ?_
    refine J_callS (g := mi_X3_mix) (pc := 95) [.long v34, .long v36.toInt64] [] ms_X3_mix w_567 (k_X3_mix v34 v36.toInt64 _) rfl rfl ⟨⟨Nat.le_of_ble_eq_true rfl, Nat.le_of_ble_eq_true rfl⟩, Nat.le_of_ble_eq_true rfl, Nat.le_of_ble_eq_true rfl⟩ (Nat.le_of_ble_eq_true rfl) dX3_hashOfPark_95 (Jk_v rfl rfl fun hok39 => ?_)
    cases h
    exact J_lreturn dX3_hashOfPark_98 rfl rfl rfl rfl rfl
  · refine J_if_eq (pc := 38) (tgt := 45) dX3_hashOfPark_38 (by decide) (fun c17 => ?_) (fun c17 => ?_)
    · refine J_lconst (v := (0 : Int64)) (pc := 45) dX3_hashOfPark_45 (by decide) ?_
      refine J_sub [0] rfl ?_
      refine J_topl (y := v15) (by rw [e16, if_pos c17]) ?_
      exact hJ
    · refine J_lconst (v := (1 : Int64)) (pc := 41) dX3_hashOfPark_41 (by decide) ?_
      refine J_goto (pc := 42) (tgt := 46) dX3_hashOfPark_42 (by decide) ?_
      refine J_sub [0] rfl ?_
      refine J_topl (y := v15) (by rw [e16, if_neg c17]) ?_
      exact hJ

/-! ===== walks of the methods, 2 ===== -/
set_option maxHeartbeats 4000000 in
set_option maxRecDepth 100000 in
theorem k_X0_spreadFromStart {E : En} (a1 : Int32) (M : Wd) {M' : Wd} (h : F_X0_spreadFromStart a1 M = some M') : Con E mi_X0_spreadFromStart [.ref 44, .int a1] M (.inl none) M' := by
  unfold F_X0_spreadFromStart at h
  refine Con.of (by decide) rfl (Nat.le_of_ble_eq_true rfl) (fun κ => ?_)
  show J κ E mi_X0_spreadFromStart _ 0 0 [(0, .ref 44), (1, .int a1)] M 0 []
  refine J_aload_n (pc := 0) dX0_spreadFromStart_0 rfl 0 rfl ?_
  obtain ⟨M1, hc2, h⟩ := obind_e h
  refine J_callV (g := mi_X0_forget) (ci := 0) (pc := 1) [] [] mv_X0_forget w_284 (k_X0_forget _ hc2) rfl (by decide) rfl rfl rfl ⟨⟨Nat.le_of_ble_eq_true rfl, Nat.le_of_ble_eq_true rfl⟩, Nat.le_of_ble_eq_true rfl, Nat.le_of_ble_eq_true rfl⟩ (Nat.le_of_ble_eq_true rfl) dX0_spreadFromStart_1 (Jk_0 rfl rfl ?_)
  refine J_aload_n (pc := 4) dX0_spreadFromStart_4 rfl 0 rfl ?_
  refine J_aload_n (pc := 5) dX0_spreadFromStart_5 rfl 0 rfl ?_
  refine get_44_8 (pc := 6) w_107 dX0_spreadFromStart_6 ?_
  refine J_iconst (v := (0 : Int32)) (pc := 9) dX0_spreadFromStart_9 (by decide) ?_
  obtain ⟨M3, hc4, h⟩ := obind_e h
  refine J_callV (g := mi_X0_find) (ci := 0) (pc := 10) [.int (M1.1 44 8), .int (0 : Int32)] [] mv_X0_find w_288 (k_X0_find (M1.1 44 8) (0 : Int32) _ hc4) rfl (by decide) rfl rfl rfl ⟨⟨Nat.le_of_ble_eq_true rfl, Nat.le_of_ble_eq_true rfl⟩, Nat.le_of_ble_eq_true rfl, Nat.le_of_ble_eq_true rfl⟩ (Nat.le_of_ble_eq_true rfl) dX0_spreadFromStart_10 (Jk_0 rfl rfl ?_)
  refine J_aload_n (pc := 13) dX0_spreadFromStart_13 rfl 0 rfl ?_
  refine J_iload_n (pc := 14) dX0_spreadFromStart_14 rfl 1 rfl ?_
  obtain ⟨M5, hc6, h⟩ := obind_e h
  refine J_callV (g := mi_X0_spread) (ci := 0) (pc := 15) [.int a1] [] mv_X0_spread w_292 (k_X0_spread a1 _ hc6) rfl (by decide) rfl rfl rfl ⟨⟨Nat.le_of_ble_eq_true rfl, Nat.le_of_ble_eq_true rfl⟩, Nat.le_of_ble_eq_true rfl, Nat.le_of_ble_eq_true rfl⟩ (Nat.le_of_ble_eq_true rfl) dX0_spreadFromStart_15 (Jk_0 rfl rfl ?_)
  cases h
  exact J_return dX0_spreadFromStart_18 rfl rfl rfl rfl rfl
set_option maxHeartbeats 4000000 in
set_option maxRecDepth 100000 in
theorem kL_X0_leastCostOut_L4 {κ : Kx} {E : En} {Q : State → Prop} {ρ : Type} {r : ρ} (M : Wd) (K53 : Int32 → Option ρ) (hK53 : ∀ (x1 : Int32), K53 x1 = some r → J κ E mi_X0_leastCostOut Q 0 0 [(1, .int x1)] M 53 []) : ∀ (m : Nat) (x1 : Int32) (x2 : Int32), F_X0_leastCostOut_L4 M K53 m x1 x2 = some r → J κ E mi_X0_leastCostOut Q 0 0 [(0, .ref 44), (1, .int x1), (2, .int x2)] M 4 [] := by
  intro m
  induction m with
  | zero => intro x1 x2 h; exact (nomatch (show (none : Option ρ) = some r from h))
  | succ m ih =>
    intro x1 x2 h
    unfold F_X0_leastCostOut_L4 at h
    refine J_iload_n (pc := 4) dX0_leastCostOut_4 rfl 2 rfl ?_
    refine J_aload_n (pc := 5) dX0_leastCostOut_5 rfl 0 rfl ?_
    refine get_44_7 (pc := 6) w_106 dX0_leastCostOut_6 ?_
    refine J_icmp_ge (pc := 9) (tgt := 53) dX0_leastCostOut_9 (by decide) (fun c1 => ?_) (fun c1 => ?_)
    · replace h := ifp c1 h
      refine J_sub [1] rfl ?_
      exact hK53 _ h
    · replace h := ifn c1 h
      refine J_aload_n (pc := 12) dX0_leastCostOut_12 rfl 0 rfl ?_
      refine J_iload_n (pc := 13) dX0_leastCostOut_13 rfl 2 rfl ?_
      refine J_callV (g := mi_X0_isOutIn) (ci := 0) (pc := 14) [.int x2] [] mv_X0_isOutIn w_316 (k_X0_isOutIn  x2 _) rfl (by decide) rfl rfl rfl ⟨⟨Nat.le_of_ble_eq_true rfl, Nat.le_of_ble_eq_true rfl⟩, Nat.le_of_ble_eq_true rfl, Nat.le_of_ble_eq_true rfl⟩ (Nat.le_of_ble_eq_true rfl) dX0_leastCostOut_14 (Jk_v rfl rfl fun hok2 => ?_)
      obtain ⟨v3, hv8, h⟩ := obind_e h
      refine J_join [(0, .ref 44), (1, .int x1), (2, .int x2)] M 29 [.int v3] ?_ (fun hJ => ?_)
      · refine J_istore_n (pc := 29) dX0_leastCostOut_29 rfl (Nat.le_of_ble_eq_true rfl) [1, 2, 3, 0] rfl ?_
        refine J_iload_n (pc := 30) dX0_leastCostOut_30 rfl 3 rfl ?_
        refine J_iconst (v := (-1 : Int32)) (pc := 31) dX0_leastCostOut_31 (by decide) ?_
        obtain ⟨v9, e10, h⟩ := bnd_e h
        refine J_join [(0, .ref 44), (1, .int v9), (2, .int x2)] M 47 [] ?_ (fun hJ => ?_)
        · obtain ⟨v14, e15, h⟩ := bnd_e h
          refine J_iinc (v := v14) (pc := 47) dX0_leastCostOut_47 2 rfl (by rw [e15]; rfl) (Nat.le_of_ble_eq_true rfl) [1, 2, 0] rfl ?_
          refine J_goto (pc := 50) (tgt := 4) dX0_leastCostOut_50 (by decide) ?_
          exact ih _ _ h
        · refine J_icmp_eq (pc := 32) (tgt := 47) dX0_leastCostOut_32 (by decide) (fun c11 => ?_) (fun c11 => ?_)
          · refine J_sub [0, 1, 2] rfl ?_
            refine J_LS [(0, .ref 44), (1, .int v9), (2, .int x2)] [] (by rw [e10, if_pos c11]; first | done | rfl) rfl ?_
            exact hJ
          · refine J_iload_n (pc := 35) dX0_leastCostOut_35 rfl 1 rfl ?_
            refine J_iconst (v := (-1 : Int32)) (pc := 36) dX0_leastCostOut_36 (by decide) ?_
            refine J_icmp_eq (pc := 37) (tgt := 45) dX0_leastCostOut_37 (by decide) (fun c12 => ?_) (fun c12 => ?_)
            · refine J_iload_n (pc := 45) dX0_leastCostOut_45 rfl 3 rfl ?_
              refine J_istore_n (pc := 46) dX0_leastCostOut_46 rfl (Nat.le_of_ble_eq_true rfl) [1, 0, 2, 3] rfl ?_
              refine J_LS [(0, .ref 44), (1, .int v3), (2, .int x2), (3, .int v3)] [] rfl rfl ?_
              refine J_sub [0, 1, 2] rfl ?_
              refine J_LS [(0, .ref 44), (1, .int v9), (2, .int x2)] [] (by rw [e10, if_neg c11, if_pos c12]; first | done | rfl) rfl ?_
              exact hJ
            · refine J_iload_n (pc := 40) dX0_leastCostOut_40 rfl 3 rfl ?_
              refine J_iload_n (pc := 41) dX0_leastCostOut_41 rfl 1 rfl ?_
              refine J_icmp_ge (pc := 42) (tgt := 47) dX0_leastCostOut_42 (by decide) (fun c13 => ?_) (fun c13 => ?_)
              · refine J_sub [0, 1, 2] rfl ?_
                refine J_LS [(0, .ref 44), (1, .int v9), (2, .int x2)] [] (by rw [e10, if_neg c11, if_neg c12, if_pos c13]; first | done | rfl) rfl ?_
                exact hJ
              · refine J_iload_n (pc := 45) dX0_leastCostOut_45 rfl 3 rfl ?_
                refine J_istore_n (pc := 46) dX0_leastCostOut_46 rfl (Nat.le_of_ble_eq_true rfl) [1, 0, 2, 3] rfl ?_
                refine J_LS [(0, .ref 44), (1, .int v3), (2, .int x2), (3, .int v3)] [] rfl rfl ?_
                refine J_sub [0, 1, 2] rfl ?_
                refine J_LS [(0, .ref 44), (1, .int v9), (2, .int x2)] [] (by rw [e10, if_neg c11, if_neg c12, if_neg c13]; first | done | rfl) rfl ?_
                exact hJ
      · replace h := hv8
        refine J_if_eq (pc := 17) (tgt := 28) dX0_leastCostOut_17 (by decide) (fun c4 => ?_) (fun c4 => ?_)
        · replace h := ifp c4 h
          refine J_iconst (v := (-1 : Int32)) (pc := 28) dX0_leastCostOut_28 (by decide) ?_
          cases h
          exact hJ
        · replace h := ifn c4 h
          refine J_aload_n (pc := 20) dX0_leastCostOut_20 rfl 0 rfl ?_
          refine J_iload_n (pc := 21) dX0_leastCostOut_21 rfl 2 rfl ?_
          obtain ⟨v5, hc6, h⟩ := obind_e h
          refine J_callV (g := mi_X0_costOf) (ci := 0) (pc := 22) [.int x2] [] mv_X0_costOf w_296 (k_X0_costOf  x2 _ hc6) rfl (by decide) rfl rfl rfl ⟨⟨Nat.le_of_ble_eq_true rfl, Nat.le_of_ble_eq_true rfl⟩, Nat.le_of_ble_eq_true rfl, Nat.le_of_ble_eq_true rfl⟩ (Nat.le_of_ble_eq_true rfl) dX0_leastCostOut_22 (Jk_v rfl rfl fun hok7 => ?_)
          refine J_goto (pc := 25) (tgt := 29) dX0_leastCostOut_25 (by decide) ?_
          cases h
          exact hJ
set_option maxHeartbeats 4000000 in
set_option maxRecDepth 100000 in
theorem k_X0_leastCostOut {E : En} (M : Wd) {r : Int32} (h : F_X0_leastCostOut M = some r) : Con E mi_X0_leastCostOut [.ref 44] M (.inl (some (.int r))) M := by
  unfold F_X0_leastCostOut at h
  refine Con.of (by decide) rfl (Nat.le_of_ble_eq_true rfl) (fun κ => ?_)
  show J κ E mi_X0_leastCostOut _ 0 0 [(0, .ref 44)] M 0 []
  refine J_iconst (v := (-1 : Int32)) (pc := 0) dX0_leastCostOut_0 (by decide) ?_
  refine J_istore_n (pc := 1) dX0_leastCostOut_1 rfl (Nat.le_of_ble_eq_true rfl) [1, 0] rfl ?_
  refine J_iconst (v := (0 : Int32)) (pc := 2) dX0_leastCostOut_2 (by decide) ?_
  refine J_istore_n (pc := 3) dX0_leastCostOut_3 rfl (Nat.le_of_ble_eq_true rfl) [1, 2, 0] rfl ?_
  refine J_LS [(0, .ref 44), (1, .int (-1 : Int32)), (2, .int (0 : Int32))] [] rfl rfl ?_
  refine kL_X0_leastCostOut_L4 _ _ (fun v16 h => ?_) fuelN _ _ h
  refine J_iload_n (pc := 53) dX0_leastCostOut_53 rfl 0 rfl ?_
  cases h
  exact J_ireturn dX0_leastCostOut_54 rfl rfl rfl rfl rfl
set_option maxHeartbeats 4000000 in
set_option maxRecDepth 100000 in
theorem k_X0_slidesFromStart {E : En} (M : Wd) {r : Int32} {M' : Wd} (h : F_X0_slidesFromStart M = some (r, M')) : Con E mi_X0_slidesFromStart [.ref 44] M (.inl (some (.int r))) M' := by
  unfold F_X0_slidesFromStart at h
  refine Con.of (by decide) rfl (Nat.le_of_ble_eq_true rfl) (fun κ => ?_)
  show J κ E mi_X0_slidesFromStart _ 0 0 [(0, .ref 44)] M 0 []
  refine J_aload_n (pc := 0) dX0_slidesFromStart_0 rfl 0 rfl ?_
  refine J_iconst (v := (3 : Int32)) (pc := 1) dX0_slidesFromStart_1 (by decide) ?_
  obtain ⟨M1, hc2, h⟩ := obind_e h
  refine J_callV (g := mi_X0_spreadFromStart) (ci := 0) (pc := 2) [.int (3 : Int32)] [] mv_X0_spreadFromStart w_280 (k_X0_spreadFromStart (3 : Int32) _ hc2) rfl (by decide) rfl rfl rfl ⟨⟨Nat.le_of_ble_eq_true rfl, Nat.le_of_ble_eq_true rfl⟩, Nat.le_of_ble_eq_true rfl, Nat.le_of_ble_eq_true rfl⟩ (Nat.le_of_ble_eq_true rfl) dX0_slidesFromStart_2 (Jk_0 rfl rfl ?_)
  refine J_aload_n (pc := 5) dX0_slidesFromStart_5 rfl 0 rfl ?_
  obtain ⟨v3, hc4, h⟩ := obind_e h
  refine J_callV (g := mi_X0_leastCostOut) (ci := 0) (pc := 6) [] [] mv_X0_leastCostOut w_312 (k_X0_leastCostOut  _ hc4) rfl (by decide) rfl rfl rfl ⟨⟨Nat.le_of_ble_eq_true rfl, Nat.le_of_ble_eq_true rfl⟩, Nat.le_of_ble_eq_true rfl, Nat.le_of_ble_eq_true rfl⟩ (Nat.le_of_ble_eq_true rfl) dX0_slidesFromStart_6 (Jk_v rfl rfl fun hok5 => ?_)
  cases h
  exact J_ireturn dX0_slidesFromStart_9 rfl rfl rfl rfl rfl
set_option maxHeartbeats 4000000 in
set_option maxRecDepth 100000 in
theorem k_X0_stepsFromStart {E : En} (M : Wd) {r : Int32} {M' : Wd} (h : F_X0_stepsFromStart M = some (r, M')) : Con E mi_X0_stepsFromStart [.ref 44] M (.inl (some (.int r))) M' := by
  unfold F_X0_stepsFromStart at h
  refine Con.of (by decide) rfl (Nat.le_of_ble_eq_true rfl) (fun κ => ?_)
  show J κ E mi_X0_stepsFromStart _ 0 0 [(0, .ref 44)] M 0 []
  refine J_aload_n (pc := 0) dX0_stepsFromStart_0 rfl 0 rfl ?_
  refine J_iconst (v := (1 : Int32)) (pc := 1) dX0_stepsFromStart_1 (by decide) ?_
  obtain ⟨M1, hc2, h⟩ := obind_e h
  refine J_callV (g := mi_X0_spreadFromStart) (ci := 0) (pc := 2) [.int (1 : Int32)] [] mv_X0_spreadFromStart w_280 (k_X0_spreadFromStart (1 : Int32) _ hc2) rfl (by decide) rfl rfl rfl ⟨⟨Nat.le_of_ble_eq_true rfl, Nat.le_of_ble_eq_true rfl⟩, Nat.le_of_ble_eq_true rfl, Nat.le_of_ble_eq_true rfl⟩ (Nat.le_of_ble_eq_true rfl) dX0_stepsFromStart_2 (Jk_0 rfl rfl ?_)
  refine J_aload_n (pc := 5) dX0_stepsFromStart_5 rfl 0 rfl ?_
  obtain ⟨v3, hc4, h⟩ := obind_e h
  refine J_callV (g := mi_X0_leastCostOut) (ci := 0) (pc := 6) [] [] mv_X0_leastCostOut w_312 (k_X0_leastCostOut  _ hc4) rfl (by decide) rfl rfl rfl ⟨⟨Nat.le_of_ble_eq_true rfl, Nat.le_of_ble_eq_true rfl⟩, Nat.le_of_ble_eq_true rfl, Nat.le_of_ble_eq_true rfl⟩ (Nat.le_of_ble_eq_true rfl) dX0_stepsFromStart_6 (Jk_v rfl rfl fun hok5 => ?_)
  cases h
  exact J_ireturn dX0_stepsFromStart_9 rfl rfl rfl rfl rfl
set_option maxHeartbeats 4000000 in
set_option maxRecDepth 100000 in
theorem kL_X0_slidesFromEnds_L6 {κ : Kx} {E : En} {Q : State → Prop} {ρ : Type} {r : ρ} (K34 : Wd → Option ρ) (hK34 : ∀ (M : Wd), K34 M = some r → J κ E mi_X0_slidesFromEnds Q 0 0 [(0, .ref 44)] M 34 []) : ∀ (m : Nat) (x1 : Int32) (M : Wd), F_X0_slidesFromEnds_L6 K34 m x1 M = some r → J κ E mi_X0_slidesFromEnds Q 0 0 [(0, .ref 44), (1, .int x1)] M 6 [] := by
  intro m
  induction m with
  | zero => intro x1 M h; exact (nomatch (show (none : Option ρ) = some r from h))
  | succ m ih =>
    intro x1 M h
    unfold F_X0_slidesFromEnds_L6 at h
    refine J_iload_n (pc := 6) dX0_slidesFromEnds_6 rfl 1 rfl ?_
    refine J_aload_n (pc := 7) dX0_slidesFromEnds_7 rfl 0 rfl ?_
    refine get_44_7 (pc := 8) w_106 dX0_slidesFromEnds_8 ?_
    refine J_icmp_ge (pc := 11) (tgt := 34) dX0_slidesFromEnds_11 (by decide) (fun c3 => ?_) (fun c3 => ?_)
    · replace h := ifp c3 h
      refine J_sub [0] rfl ?_
      exact hK34 _ h
    · replace h := ifn c3 h
      refine J_aload_n (pc := 14) dX0_slidesFromEnds_14 rfl 0 rfl ?_
      refine J_iload_n (pc := 15) dX0_slidesFromEnds_15 rfl 1 rfl ?_
      refine J_callV (g := mi_X0_isOutIn) (ci := 0) (pc := 16) [.int x1] [] mv_X0_isOutIn w_316 (k_X0_isOutIn  x1 _) rfl (by decide) rfl rfl rfl ⟨⟨Nat.le_of_ble_eq_true rfl, Nat.le_of_ble_eq_true rfl⟩, Nat.le_of_ble_eq_true rfl, Nat.le_of_ble_eq_true rfl⟩ (Nat.le_of_ble_eq_true rfl) dX0_slidesFromEnds_16 (Jk_v rfl rfl fun hok4 => ?_)
      obtain ⟨M5, hv9, h⟩ := obind_e h
      refine J_join [(0, .ref 44), (1, .int x1)] M5 28 [] ?_ (fun hJ => ?_)
      · obtain ⟨v10, e11, h⟩ := bnd_e h
        refine J_iinc (v := v10) (pc := 28) dX0_slidesFromEnds_28 1 rfl (by rw [e11]; rfl) (Nat.le_of_ble_eq_true rfl) [1, 0] rfl ?_
        refine J_goto (pc := 31) (tgt := 6) dX0_slidesFromEnds_31 (by decide) ?_
        exact ih _ _ h
      · replace h := hv9
        refine J_if_eq (pc := 19) (tgt := 28) dX0_slidesFromEnds_19 (by decide) (fun c6 => ?_) (fun c6 => ?_)
        · replace h := ifp c6 h
          cases h
          exact hJ
        · replace h := ifn c6 h
          refine J_aload_n (pc := 22) dX0_slidesFromEnds_22 rfl 0 rfl ?_
          refine J_iload_n (pc := 23) dX0_slidesFromEnds_23 rfl 1 rfl ?_
          refine J_iconst (v := (0 : Int32)) (pc := 24) dX0_slidesFromEnds_24 (by decide) ?_
          obtain ⟨M7, hc8, h⟩ := obind_e h
          refine J_callV (g := mi_X0_find) (ci := 0) (pc := 25) [.int x1, .int (0 : Int32)] [] mv_X0_find w_288 (k_X0_find x1 (0 : Int32) _ hc8) rfl (by decide) rfl rfl rfl ⟨⟨Nat.le_of_ble_eq_true rfl, Nat.le_of_ble_eq_true rfl⟩, Nat.le_of_ble_eq_true rfl, Nat.le_of_ble_eq_true rfl⟩ (Nat.le_of_ble_eq_true rfl) dX0_slidesFromEnds_25 (Jk_0 rfl rfl ?_)
          cases h
          exact hJ
set_option maxHeartbeats 4000000 in
set_option maxRecDepth 100000 in
theorem k_X0_slidesFromEnds {E : En} (M : Wd) {r : Int32} {M' : Wd} (h : F_X0_slidesFromEnds M = some (r, M')) : Con E mi_X0_slidesFromEnds [.ref 44] M (.inl (some (.int r))) M' := by
  unfold F_X0_slidesFromEnds at h
  refine Con.of (by decide) rfl (Nat.le_of_ble_eq_true rfl) (fun κ => ?_)
  show J κ E mi_X0_slidesFromEnds _ 0 0 [(0, .ref 44)] M 0 []
  refine J_aload_n (pc := 0) dX0_slidesFromEnds_0 rfl 0 rfl ?_
  obtain ⟨M1, hc2, h⟩ := obind_e h
  refine J_callV (g := mi_X0_forget) (ci := 0) (pc := 1) [] [] mv_X0_forget w_284 (k_X0_forget _ hc2) rfl (by decide) rfl rfl rfl ⟨⟨Nat.le_of_ble_eq_true rfl, Nat.le_of_ble_eq_true rfl⟩, Nat.le_of_ble_eq_true rfl, Nat.le_of_ble_eq_true rfl⟩ (Nat.le_of_ble_eq_true rfl) dX0_slidesFromEnds_1 (Jk_0 rfl rfl ?_)
  refine J_iconst (v := (0 : Int32)) (pc := 4) dX0_slidesFromEnds_4 (by decide) ?_
  refine J_istore_n (pc := 5) dX0_slidesFromEnds_5 rfl (Nat.le_of_ble_eq_true rfl) [1, 0] rfl ?_
  refine kL_X0_slidesFromEnds_L6 _ (fun M12 h => ?_) fuelN _ _ h
  refine J_aload_n (pc := 34) dX0_slidesFromEnds_34 rfl 0 rfl ?_
  refine J_iconst (v := (3 : Int32)) (pc := 35) dX0_slidesFromEnds_35 (by decide) ?_
  obtain ⟨M13, hc14, h⟩ := obind_e h
  refine J_callV (g := mi_X0_spread) (ci := 0) (pc := 36) [.int (3 : Int32)] [] mv_X0_spread w_292 (k_X0_spread (3 : Int32) _ hc14) rfl (by decide) rfl rfl rfl ⟨⟨Nat.le_of_ble_eq_true rfl, Nat.le_of_ble_eq_true rfl⟩, Nat.le_of_ble_eq_true rfl, Nat.le_of_ble_eq_true rfl⟩ (Nat.le_of_ble_eq_true rfl) dX0_slidesFromEnds_36 (Jk_0 rfl rfl ?_)
  refine J_aload_n (pc := 39) dX0_slidesFromEnds_39 rfl 0 rfl ?_
  refine J_aload_n (pc := 40) dX0_slidesFromEnds_40 rfl 0 rfl ?_
  refine get_44_8 (pc := 41) w_107 dX0_slidesFromEnds_41 ?_
  obtain ⟨v15, hc16, h⟩ := obind_e h
  refine J_callV (g := mi_X0_costOf) (ci := 0) (pc := 44) [.int (M13.1 44 8)] [] mv_X0_costOf w_296 (k_X0_costOf  (M13.1 44 8) _ hc16) rfl (by decide) rfl rfl rfl ⟨⟨Nat.le_of_ble_eq_true rfl, Nat.le_of_ble_eq_true rfl⟩, Nat.le_of_ble_eq_true rfl, Nat.le_of_ble_eq_true rfl⟩ (Nat.le_of_ble_eq_true rfl) dX0_slidesFromEnds_44 (Jk_v rfl rfl fun hok17 => ?_)
  cases h
  exact J_ireturn dX0_slidesFromEnds_47 rfl rfl rfl rfl rfl
set_option maxHeartbeats 4000000 in
set_option maxRecDepth 100000 in
theorem kL_X0_foundOut_L4 {κ : Kx} {E : En} {Q : State → Prop} {ρ : Type} {r : ρ} (M : Wd) (K41 : Int32 → Option ρ) (hK41 : ∀ (x1 : Int32), K41 x1 = some r → J κ E mi_X0_foundOut Q 0 0 [(1, .int x1)] M 41 []) : ∀ (m : Nat) (x1 : Int32) (x2 : Int32), F_X0_foundOut_L4 M K41 m x1 x2 = some r → J κ E mi_X0_foundOut Q 0 0 [(0, .ref 44), (1, .int x1), (2, .int x2)] M 4 [] := by
  intro m
  induction m with
  | zero => intro x1 x2 h; exact (nomatch (show (none : Option ρ) = some r from h))
  | succ m ih =>
    intro x1 x2 h
    unfold F_X0_foundOut_L4 at h
    refine J_iload_n (pc := 4) dX0_foundOut_4 rfl 2 rfl ?_
    refine J_aload_n (pc := 5) dX0_foundOut_5 rfl 0 rfl ?_
    refine get_44_9 (pc := 6) w_109 dX0_foundOut_6 ?_
    refine J_icmp_ge (pc := 9) (tgt := 41) dX0_foundOut_9 (by decide) (fun c1 => ?_) (fun c1 => ?_)
    · replace h := ifp c1 h
      refine J_sub [1] rfl ?_
      exact hK41 _ h
    · replace h := ifn c1 h
      refine J_iload_n (pc := 12) dX0_foundOut_12 rfl 2 rfl ?_
      refine J_sipush (v := (4096 : Int32)) (pc := 13) dX0_foundOut_13 (by decide) ?_
      refine J_icmp_ge (pc := 16) (tgt := 41) dX0_foundOut_16 (by decide) (fun c2 => ?_) (fun c2 => ?_)
      · replace h := ifp c2 h
        refine J_sub [1] rfl ?_
        exact hK41 _ h
      · replace h := ifn c2 h
        refine J_aload_n (pc := 19) dX0_foundOut_19 rfl 0 rfl ?_
        refine J_aload_n (pc := 20) dX0_foundOut_20 rfl 0 rfl ?_
        refine get_44_3 (pc := 21) w_102 dX0_foundOut_21 ?_
        refine J_iload_n (pc := 24) dX0_foundOut_24 rfl 2 rfl ?_
        obtain ⟨v3, e4, hk5, h⟩ := ldi_e h
        refine J_iald (c := 48) (N := 4096) (pc := 25) ja_48 (Nat.le_of_ble_eq_true rfl) hk5 dX0_foundOut_25 ?_
        refine J_topi e4 ?_
        refine J_callV (g := mi_X0_isOutIn) (ci := 0) (pc := 26) [.int v3] [] mv_X0_isOutIn w_316 (k_X0_isOutIn  v3 _) rfl (by decide) rfl rfl rfl ⟨⟨Nat.le_of_ble_eq_true rfl, Nat.le_of_ble_eq_true rfl⟩, Nat.le_of_ble_eq_true rfl, Nat.le_of_ble_eq_true rfl⟩ (Nat.le_of_ble_eq_true rfl) dX0_foundOut_26 (Jk_v rfl rfl fun hok6 => ?_)
        obtain ⟨v7, e8, h⟩ := bnd_e h
        refine J_join [(0, .ref 44), (1, .int v7), (2, .int x2)] M 35 [] ?_ (fun hJ => ?_)
        · obtain ⟨v10, e11, h⟩ := bnd_e h
          refine J_iinc (v := v10) (pc := 35) dX0_foundOut_35 2 rfl (by rw [e11]; rfl) (Nat.le_of_ble_eq_true rfl) [1, 2, 0] rfl ?_
          refine J_goto (pc := 38) (tgt := 4) dX0_foundOut_38 (by decide) ?_
          exact ih _ _ h
        · refine J_if_eq (pc := 29) (tgt := 35) dX0_foundOut_29 (by decide) (fun c9 => ?_) (fun c9 => ?_)
          · refine J_LS [(0, .ref 44), (1, .int v7), (2, .int x2)] [] (by rw [e8, if_pos c9]; first | done | rfl) rfl ?_
            exact hJ
          · refine J_iinc (v := (x1 + (1 : Int32))) (pc := 32) dX0_foundOut_32 1 rfl rfl (Nat.le_of_ble_eq_true rfl) [1, 0, 2] rfl ?_
            refine J_LS [(0, .ref 44), (1, .int v7), (2, .int x2)] [] (by rw [e8, if_neg c9]; first | done | rfl) rfl ?_
            exact hJ
set_option maxHeartbeats 4000000 in
set_option maxRecDepth 100000 in
theorem k_X0_foundOut {E : En} (M : Wd) {r : Int32} (h : F_X0_foundOut M = some r) : Con E mi_X0_foundOut [.ref 44] M (.inl (some (.int r))) M := by
  unfold F_X0_foundOut at h
  refine Con.of (by decide) rfl (Nat.le_of_ble_eq_true rfl) (fun κ => ?_)
  show J κ E mi_X0_foundOut _ 0 0 [(0, .ref 44)] M 0 []
  refine J_iconst (v := (0 : Int32)) (pc := 0) dX0_foundOut_0 (by decide) ?_
  refine J_istore_n (pc := 1) dX0_foundOut_1 rfl (Nat.le_of_ble_eq_true rfl) [1, 0] rfl ?_
  refine J_iconst (v := (0 : Int32)) (pc := 2) dX0_foundOut_2 (by decide) ?_
  refine J_istore_n (pc := 3) dX0_foundOut_3 rfl (Nat.le_of_ble_eq_true rfl) [1, 2, 0] rfl ?_
  refine J_LS [(0, .ref 44), (1, .int (0 : Int32)), (2, .int (0 : Int32))] [] rfl rfl ?_
  refine kL_X0_foundOut_L4 _ _ (fun v12 h => ?_) fuelN _ _ h
  refine J_iload_n (pc := 41) dX0_foundOut_41 rfl 0 rfl ?_
  cases h
  exact J_ireturn dX0_foundOut_42 rfl rfl rfl rfl rfl
set_option maxHeartbeats 4000000 in
set_option maxRecDepth 100000 in
theorem k_X0_farthestFound {E : En} (M : Wd) {r : Int32} (h : F_X0_farthestFound M = some r) : Con E mi_X0_farthestFound [.ref 44] M (.inl (some (.int r))) M := by
  unfold F_X0_farthestFound at h
  refine Con.of (by decide) rfl (Nat.le_of_ble_eq_true rfl) (fun κ => ?_)
  show J κ E mi_X0_farthestFound _ 0 0 [(0, .ref 44)] M 0 []
  refine J_aload_n (pc := 0) dX0_farthestFound_0 rfl 0 rfl ?_
  refine get_44_9 (pc := 1) w_109 dX0_farthestFound_1 ?_
  refine J_iconst (v := (1 : Int32)) (pc := 4) dX0_farthestFound_4 (by decide) ?_
  refine J_isub (pc := 5) dX0_farthestFound_5 ?_
  obtain ⟨v1, e2, h⟩ := bnd_e h
  refine J_topi e2 ?_
  refine J_istore_n (pc := 6) dX0_farthestFound_6 rfl (Nat.le_of_ble_eq_true rfl) [1, 0] rfl ?_
  refine J_iload_n (pc := 7) dX0_farthestFound_7 rfl 1 rfl ?_
  refine J_if_lt (pc := 8) (tgt := 31) dX0_farthestFound_8 (by decide) (fun c3 => ?_) (fun c3 => ?_)
  · replace h := ifp c3 h
    refine J_iconst (v := (0 : Int32)) (pc := 31) dX0_farthestFound_31 (by decide) ?_
    cases h
    exact J_ireturn dX0_farthestFound_32 rfl rfl rfl rfl rfl
  · replace h := ifn c3 h
    refine J_iload_n (pc := 11) dX0_farthestFound_11 rfl 1 rfl ?_
    refine J_sipush (v := (4096 : Int32)) (pc := 12) dX0_farthestFound_12 (by decide) ?_
    refine J_icmp_ge (pc := 15) (tgt := 31) dX0_farthestFound_15 (by decide) (fun c4 => ?_) (fun c4 => ?_)
    · replace h := ifp c4 h
      refine J_iconst (v := (0 : Int32)) (pc := 31) dX0_farthestFound_31 (by decide) ?_
      cases h
      exact J_ireturn dX0_farthestFound_32 rfl rfl rfl rfl rfl
    · replace h := ifn c4 h
      refine J_aload_n (pc := 18) dX0_farthestFound_18 rfl 0 rfl ?_
      refine J_aload_n (pc := 19) dX0_farthestFound_19 rfl 0 rfl ?_
      refine get_44_3 (pc := 20) w_102 dX0_farthestFound_20 ?_
      refine J_iload_n (pc := 23) dX0_farthestFound_23 rfl 1 rfl ?_
      obtain ⟨v5, e6, hk7, h⟩ := ldi_e h
      refine J_iald (c := 48) (N := 4096) (pc := 24) ja_48 (Nat.le_of_ble_eq_true rfl) hk7 dX0_farthestFound_24 ?_
      refine J_topi e6 ?_
      obtain ⟨v8, hc9, h⟩ := obind_e h
      refine J_callV (g := mi_X0_costOf) (ci := 0) (pc := 25) [.int v5] [] mv_X0_costOf w_296 (k_X0_costOf  v5 _ hc9) rfl (by decide) rfl rfl rfl ⟨⟨Nat.le_of_ble_eq_true rfl, Nat.le_of_ble_eq_true rfl⟩, Nat.le_of_ble_eq_true rfl, Nat.le_of_ble_eq_true rfl⟩ (Nat.le_of_ble_eq_true rfl) dX0_farthestFound_25 (Jk_v rfl rfl fun hok10 => ?_)
      refine J_goto (pc := 28) (tgt := 32) dX0_farthestFound_28 (by decide) ?_
      cases h
      exact J_ireturn dX0_farthestFound_32 rfl rfl rfl rfl rfl
set_option maxHeartbeats 4000000 in
set_option maxRecDepth 100000 in
theorem kL_X0_findNextSlide_L24 {κ : Kx} {E : En} {Q : State → Prop} {ρ : Type} {r : ρ} (a1 : Int32) (a2 : Int32) (a3 : Int32) (M : Wd) (K53 : Int32 → Option ρ) (K72 : Option ρ) (hK53 : ∀ (x4 : Int32), K53 x4 = some r → J κ E mi_X0_findNextSlide Q 0 0 [(0, .ref 44), (3, .int a3), (4, .int x4)] M 53 []) (hK72 : K72 = some r → J κ E mi_X0_findNextSlide Q 0 0 [(0, .ref 44), (1, .int a1), (2, .int a2), (3, .int a3)] M 72 []) : ∀ (m : Nat) (x4 : Int32), F_X0_findNextSlide_L24 a1 a2 a3 M K53 K72 m x4 = some r → J κ E mi_X0_findNextSlide Q 0 0 [(0, .ref 44), (1, .int a1), (2, .int a2), (3, .int a3), (4, .int x4)] M 24 [] := by
  intro m
  induction m with
  | zero => intro x4 h; exact (nomatch (show (none : Option ρ) = some r from h))
  | succ m ih =>
    intro x4 h
    unfold F_X0_findNextSlide_L24 at h
    refine J_iload (pc := 24) dX0_findNextSlide_24 4 rfl ?_
    refine J_iconst (v := (3 : Int32)) (pc := 26) dX0_findNextSlide_26 (by decide) ?_
    refine J_icmp_gt (pc := 27) (tgt := 72) dX0_findNextSlide_27 (by decide) (fun c6 => ?_) (fun c6 => ?_)
    · replace h := ifp c6 h
      refine J_sub [0, 1, 2, 3] rfl ?_
      exact hK72 h
    · replace h := ifn c6 h
      refine J_iload (pc := 30) dX0_findNextSlide_30 4 rfl ?_
      refine J_if_eq (pc := 32) (tgt := 66) dX0_findNextSlide_32 (by decide) (fun c7 => ?_) (fun c7 => ?_)
      · replace h := ifp c7 h
        obtain ⟨v8, e9, h⟩ := bnd_e h
        refine J_iinc (v := v8) (pc := 66) dX0_findNextSlide_66 4 rfl (by rw [e9]; rfl) (Nat.le_of_ble_eq_true rfl) [1, 2, 3, 4, 0] rfl ?_
        refine J_goto (pc := 69) (tgt := 24) dX0_findNextSlide_69 (by decide) ?_
        exact ih _ h
      · replace h := ifn c7 h
        refine J_aload_n (pc := 35) dX0_findNextSlide_35 rfl 0 rfl ?_
        refine J_aload_n (pc := 36) dX0_findNextSlide_36 rfl 0 rfl ?_
        refine J_iload_n (pc := 37) dX0_findNextSlide_37 rfl 1 rfl ?_
        refine J_iload_n (pc := 38) dX0_findNextSlide_38 rfl 3 rfl ?_
        refine J_iload (pc := 39) dX0_findNextSlide_39 4 rfl ?_
        obtain ⟨v10, hc11, h⟩ := obind_e h
        refine J_callV (g := mi_X0_behindSlide) (ci := 0) (pc := 41) [.int a1, .int a3, .int x4] [.ref 44] mv_X0_behindSlide w_641 (k_X0_behindSlide  a1 a3 x4 _ hc11) rfl (by decide) rfl rfl rfl ⟨⟨Nat.le_of_ble_eq_true rfl, Nat.le_of_ble_eq_true rfl⟩, Nat.le_of_ble_eq_true rfl, Nat.le_of_ble_eq_true rfl⟩ (Nat.le_of_ble_eq_true rfl) dX0_findNextSlide_41 (Jk_v rfl rfl fun hok12 => ?_)
        obtain ⟨v13, hc14, h⟩ := obind_e h
        refine J_callV (g := mi_X0_costOf) (ci := 0) (pc := 44) [.int v10] [] mv_X0_costOf w_296 (k_X0_costOf  v10 _ hc14) rfl (by decide) rfl rfl rfl ⟨⟨Nat.le_of_ble_eq_true rfl, Nat.le_of_ble_eq_true rfl⟩, Nat.le_of_ble_eq_true rfl, Nat.le_of_ble_eq_true rfl⟩ (Nat.le_of_ble_eq_true rfl) dX0_findNextSlide_44 (Jk_v rfl rfl fun hok15 => ?_)
        refine J_iload_n (pc := 47) dX0_findNextSlide_47 rfl 2 rfl ?_
        refine J_iconst (v := (1 : Int32)) (pc := 48) dX0_findNextSlide_48 (by decide) ?_
        refine J_isub (pc := 49) dX0_findNextSlide_49 ?_
        refine J_icmp_ne (pc := 50) (tgt := 66) dX0_findNextSlide_50 (by decide) (fun c16 => ?_) (fun c16 => ?_)
        · replace h := ifn c16 h
          obtain ⟨v17, e18, h⟩ := bnd_e h
          refine J_iinc (v := v17) (pc := 66) dX0_findNextSlide_66 4 rfl (by rw [e18]; rfl) (Nat.le_of_ble_eq_true rfl) [1, 2, 3, 4, 0] rfl ?_
          refine J_goto (pc := 69) (tgt := 24) dX0_findNextSlide_69 (by decide) ?_
          exact ih _ h
        · replace h := ifp c16 h
          refine J_sub [0, 3, 4] rfl ?_
          exact hK53 _ h
set_option maxHeartbeats 4000000 in
set_option maxRecDepth 100000 in
theorem kL_X0_findNextSlide_L8 {κ : Kx} {E : En} {Q : State → Prop} {ρ : Type} {r : ρ} (a1 : Int32) (a2 : Int32) (M : Wd) (K53 : Int32 → Int32 → Option ρ) (K78 : Option ρ) (hK53 : ∀ (x3 : Int32) (x4 : Int32), K53 x3 x4 = some r → J κ E mi_X0_findNextSlide Q 0 0 [(0, .ref 44), (3, .int x3), (4, .int x4)] M 53 []) (hK78 : K78 = some r → J κ E mi_X0_findNextSlide Q 0 0 [] M 78 []) : ∀ (m : Nat) (x3 : Int32), F_X0_findNextSlide_L8 a1 a2 M K53 K78 m x3 = some r → J κ E mi_X0_findNextSlide Q 0 0 [(0, .ref 44), (1, .int a1), (2, .int a2), (3, .int x3)] M 8 [] := by
  intro m
  induction m with
  | zero => intro x3 h; exact (nomatch (show (none : Option ρ) = some r from h))
  | succ m ih =>
    intro x3 h
    unfold F_X0_findNextSlide_L8 at h
    refine J_iload_n (pc := 8) dX0_findNextSlide_8 rfl 3 rfl ?_
    refine J_aload_n (pc := 9) dX0_findNextSlide_9 rfl 0 rfl ?_
    refine get_44_6 (pc := 10) w_105 dX0_findNextSlide_10 ?_
    refine J_icmp_ge (pc := 13) (tgt := 78) dX0_findNextSlide_13 (by decide) (fun c4 => ?_) (fun c4 => ?_)
    · replace h := ifp c4 h
      refine J_sub [] rfl ?_
      exact hK78 h
    · replace h := ifn c4 h
      refine J_iload_n (pc := 16) dX0_findNextSlide_16 rfl 2 rfl ?_
      refine J_if_le (pc := 17) (tgt := 78) dX0_findNextSlide_17 (by decide) (fun c5 => ?_) (fun c5 => ?_)
      · replace h := ifp c5 h
        refine J_sub [] rfl ?_
        exact hK78 h
      · replace h := ifn c5 h
        refine J_bipush (v := (-3 : Int32)) (pc := 20) dX0_findNextSlide_20 (by decide) ?_
        refine J_istore (pc := 22) dX0_findNextSlide_22 (Nat.le_of_ble_eq_true rfl) [1, 2, 3, 4, 0] rfl ?_
        refine kL_X0_findNextSlide_L24 _ _ _ _ _ _ (fun v19 h => ?_) (fun h => ?_) fuelN _ h
        · exact hK53 _ _ h
        · obtain ⟨v20, e21, h⟩ := bnd_e h
          refine J_iinc (v := v20) (pc := 72) dX0_findNextSlide_72 3 rfl (by rw [e21]; rfl) (Nat.le_of_ble_eq_true rfl) [1, 2, 3, 0] rfl ?_
          refine J_LS [(0, .ref 44), (1, .int a1), (2, .int a2), (3, .int v20)] [] rfl rfl ?_
          refine J_goto (pc := 75) (tgt := 8) dX0_findNextSlide_75 (by decide) ?_
          exact ih _ h
set_option maxHeartbeats 4000000 in
set_option maxRecDepth 100000 in
theorem k_X0_findNextSlide {E : En} (a1 : Int32) (M : Wd) {r : Int32} {M' : Wd} (h : F_X0_findNextSlide a1 M = some (r, M')) : Con E mi_X0_findNextSlide [.ref 44, .int a1] M (.inl (some (.int r))) M' := by
  unfold F_X0_findNextSlide at h
  refine Con.of (by decide) rfl (Nat.le_of_ble_eq_true rfl) (fun κ => ?_)
  show J κ E mi_X0_findNextSlide _ 0 0 [(0, .ref 44), (1, .int a1)] M 0 []
  refine J_aload_n (pc := 0) dX0_findNextSlide_0 rfl 0 rfl ?_
  refine J_iload_n (pc := 1) dX0_findNextSlide_1 rfl 1 rfl ?_
  obtain ⟨v1, hc2, h⟩ := obind_e h
  refine J_callV (g := mi_X0_costOf) (ci := 0) (pc := 2) [.int a1] [] mv_X0_costOf w_296 (k_X0_costOf  a1 _ hc2) rfl (by decide) rfl rfl rfl ⟨⟨Nat.le_of_ble_eq_true rfl, Nat.le_of_ble_eq_true rfl⟩, Nat.le_of_ble_eq_true rfl, Nat.le_of_ble_eq_true rfl⟩ (Nat.le_of_ble_eq_true rfl) dX0_findNextSlide_2 (Jk_v rfl rfl fun hok3 => ?_)
  refine J_istore_n (pc := 5) dX0_findNextSlide_5 rfl (Nat.le_of_ble_eq_true rfl) [1, 2, 0] rfl ?_
  refine J_iconst (v := (0 : Int32)) (pc := 6) dX0_findNextSlide_6 (by decide) ?_
  refine J_istore_n (pc := 7) dX0_findNextSlide_7 rfl (Nat.le_of_ble_eq_true rfl) [1, 2, 3, 0] rfl ?_
  refine J_LS [(0, .ref 44), (1, .int a1), (2, .int v1), (3, .int (0 : Int32))] [] rfl rfl ?_
  refine kL_X0_findNextSlide_L8 _ _ _ _ _ (fun v22 v23 h => ?_) (fun h => ?_) fuelN _ h
  · refine J_aload_n (pc := 53) dX0_findNextSlide_53 rfl 0 rfl ?_
    refine J_iload_n (pc := 54) dX0_findNextSlide_54 rfl 1 rfl ?_
    refine put_44_10 (pc := 55) w_111 dX0_findNextSlide_55 ?_
    refine J_aload_n (pc := 58) dX0_findNextSlide_58 rfl 0 rfl ?_
    refine J_iload (pc := 59) dX0_findNextSlide_59 2 rfl ?_
    refine put_44_11 (pc := 61) w_113 dX0_findNextSlide_61 ?_
    refine J_iconst (v := (1 : Int32)) (pc := 64) dX0_findNextSlide_64 (by decide) ?_
    cases h
    exact J_zreturn dX0_findNextSlide_65 rfl (Or.inr rfl) rfl rfl rfl rfl
  · refine J_iconst (v := (0 : Int32)) (pc := 78) dX0_findNextSlide_78 (by decide) ?_
    cases h
    exact J_zreturn dX0_findNextSlide_79 rfl (Or.inl rfl) rfl rfl rfl rfl
set_option maxHeartbeats 4000000 in
set_option maxRecDepth 100000 in
theorem k_X0_isCheaper {E : En} (a1 : Int32) (a2 : Int32) (M : Wd) {r : Int32} (h : F_X0_isCheaper a1 a2 M = some r) : Con E mi_X0_isCheaper [.ref 44, .int a1, .int a2] M (.inl (some (.int r))) M := by
  unfold F_X0_isCheaper at h
  refine Con.of (by decide) rfl (Nat.le_of_ble_eq_true rfl) (fun κ => ?_)
  show J κ E mi_X0_isCheaper _ 0 0 [(0, .ref 44), (1, .int a1), (2, .int a2)] M 0 []
  refine J_aload_n (pc := 0) dX0_isCheaper_0 rfl 0 rfl ?_
  refine J_iload_n (pc := 1) dX0_isCheaper_1 rfl 1 rfl ?_
  obtain ⟨v1, hc2, h⟩ := obind_e h
  refine J_callV (g := mi_X0_exists) (ci := 0) (pc := 2) [.int a1] [] mv_X0_exists w_300 (k_X0_exists  a1 _ hc2) rfl (by decide) rfl rfl rfl ⟨⟨Nat.le_of_ble_eq_true rfl, Nat.le_of_ble_eq_true rfl⟩, Nat.le_of_ble_eq_true rfl, Nat.le_of_ble_eq_true rfl⟩ (Nat.le_of_ble_eq_true rfl) dX0_isCheaper_2 (Jk_v rfl rfl fun hok3 => ?_)
  refine J_if_eq (pc := 5) (tgt := 32) dX0_isCheaper_5 (by decide) (fun c4 => ?_) (fun c4 => ?_)
  · replace h := ifp c4 h
    refine J_iconst (v := (0 : Int32)) (pc := 32) dX0_isCheaper_32 (by decide) ?_
    cases h
    exact J_zreturn dX0_isCheaper_33 rfl (Or.inl rfl) rfl rfl rfl rfl
  · replace h := ifn c4 h
    refine J_aload_n (pc := 8) dX0_isCheaper_8 rfl 0 rfl ?_
    refine get_44_2 (pc := 9) w_101 dX0_isCheaper_9 ?_
    refine J_iload_n (pc := 12) dX0_isCheaper_12 rfl 1 rfl ?_
    obtain ⟨v5, e6, hk7, h⟩ := ldi_e h
    refine J_iald (c := 47) (N := 4096) (pc := 13) ja_47 (Nat.le_of_ble_eq_true rfl) hk7 dX0_isCheaper_13 ?_
    refine J_topi e6 ?_
    refine J_iconst (v := (-1 : Int32)) (pc := 14) dX0_isCheaper_14 (by decide) ?_
    refine J_icmp_eq (pc := 15) (tgt := 28) dX0_isCheaper_15 (by decide) (fun c8 => ?_) (fun c8 => ?_)
    · replace h := ifp c8 h
      refine J_iconst (v := (1 : Int32)) (pc := 28) dX0_isCheaper_28 (by decide) ?_
      refine J_goto (pc := 29) (tgt := 33) dX0_isCheaper_29 (by decide) ?_
      cases h
      exact J_zreturn dX0_isCheaper_33 rfl (Or.inr rfl) rfl rfl rfl rfl
    · replace h := ifn c8 h
      refine J_iload_n (pc := 18) dX0_isCheaper_18 rfl 2 rfl ?_
      refine J_aload_n (pc := 19) dX0_isCheaper_19 rfl 0 rfl ?_
      refine get_44_2 (pc := 20) w_101 dX0_isCheaper_20 ?_
      refine J_iload_n (pc := 23) dX0_isCheaper_23 rfl 1 rfl ?_
      obtain ⟨v9, e10, hk11, h⟩ := ldi_e h
      refine J_iald (c := 47) (N := 4096) (pc := 24) ja_47 (Nat.le_of_ble_eq_true rfl) hk11 dX0_isCheaper_24 ?_
      refine J_topi e10 ?_
      refine J_icmp_ge (pc := 25) (tgt := 32) dX0_isCheaper_25 (by decide) (fun c12 => ?_) (fun c12 => ?_)
      · replace h := ifp c12 h
        refine J_iconst (v := (0 : Int32)) (pc := 32) dX0_isCheaper_32 (by decide) ?_
        cases h
        exact J_zreturn dX0_isCheaper_33 rfl (Or.inl rfl) rfl rfl rfl rfl
      · replace h := ifn c12 h
        refine J_iconst (v := (1 : Int32)) (pc := 28) dX0_isCheaper_28 (by decide) ?_
        refine J_goto (pc := 29) (tgt := 33) dX0_isCheaper_29 (by decide) ?_
        cases h
        exact J_zreturn dX0_isCheaper_33 rfl (Or.inr rfl) rfl rfl rfl rfl
set_option maxHeartbeats 4000000 in
set_option maxRecDepth 100000 in
theorem k_X0_cheapen {E : En} (a1 : Int32) (a2 : Int32) (M : Wd) {M' : Wd} (h : F_X0_cheapen a1 a2 M = some M') : Con E mi_X0_cheapen [.ref 44, .int a1, .int a2] M (.inl none) M' := by
  unfold F_X0_cheapen at h
  refine Con.of (by decide) rfl (Nat.le_of_ble_eq_true rfl) (fun κ => ?_)
  show J κ E mi_X0_cheapen _ 0 0 [(0, .ref 44), (1, .int a1), (2, .int a2)] M 0 []
  refine J_iload_n (pc := 0) dX0_cheapen_0 rfl 2 rfl ?_
  refine J_iconst (v := (3 : Int32)) (pc := 1) dX0_cheapen_1 (by decide) ?_
  refine J_iand (pc := 2) dX0_cheapen_2 ?_
  obtain ⟨v1, e2, h⟩ := bnd_e h
  refine J_topi e2 ?_
  refine J_istore_n (pc := 3) dX0_cheapen_3 rfl (Nat.le_of_ble_eq_true rfl) [1, 2, 3, 0] rfl ?_
  refine J_aload_n (pc := 4) dX0_cheapen_4 rfl 0 rfl ?_
  refine J_iload_n (pc := 5) dX0_cheapen_5 rfl 1 rfl ?_
  refine J_iload_n (pc := 6) dX0_cheapen_6 rfl 2 rfl ?_
  obtain ⟨v3, hc4, h⟩ := obind_e h
  refine J_callV (g := mi_X0_isCheaper) (ci := 0) (pc := 7) [.int a1, .int a2] [] mv_X0_isCheaper w_336 (k_X0_isCheaper  a1 a2 _ hc4) rfl (by decide) rfl rfl rfl ⟨⟨Nat.le_of_ble_eq_true rfl, Nat.le_of_ble_eq_true rfl⟩, Nat.le_of_ble_eq_true rfl, Nat.le_of_ble_eq_true rfl⟩ (Nat.le_of_ble_eq_true rfl) dX0_cheapen_7 (Jk_v rfl rfl fun hok5 => ?_)
  refine J_if_eq (pc := 10) (tgt := 60) dX0_cheapen_10 (by decide) (fun c6 => ?_) (fun c6 => ?_)
  · replace h := ifp c6 h
    cases h
    exact J_return dX0_cheapen_60 rfl rfl rfl rfl rfl
  · replace h := ifn c6 h
    refine J_aload_n (pc := 13) dX0_cheapen_13 rfl 0 rfl ?_
    refine get_44_5 (pc := 14) w_104 dX0_cheapen_14 ?_
    refine J_iload_n (pc := 17) dX0_cheapen_17 rfl 3 rfl ?_
    obtain ⟨v7, e8, hk9, h⟩ := ldi_e h
    refine J_iald (c := 50) (N := 4) (pc := 18) ja_50 (Nat.le_of_ble_eq_true rfl) hk9 dX0_cheapen_18 ?_
    refine J_topi e8 ?_
    refine J_sipush (v := (4096 : Int32)) (pc := 19) dX0_cheapen_19 (by decide) ?_
    refine J_icmp_ge (pc := 22) (tgt := 60) dX0_cheapen_22 (by decide) (fun c10 => ?_) (fun c10 => ?_)
    · replace h := ifp c10 h
      cases h
      exact J_return dX0_cheapen_60 rfl rfl rfl rfl rfl
    · replace h := ifn c10 h
      refine J_aload_n (pc := 25) dX0_cheapen_25 rfl 0 rfl ?_
      refine get_44_2 (pc := 26) w_101 dX0_cheapen_26 ?_
      refine J_iload_n (pc := 29) dX0_cheapen_29 rfl 1 rfl ?_
      refine J_iload_n (pc := 30) dX0_cheapen_30 rfl 2 rfl ?_
      obtain ⟨hk11, h⟩ := inb_e h
      refine J_iast (c := 47) (N := 4096) (pc := 31) (fun _ => ja_47) (Nat.le_of_ble_eq_true rfl) hk11 dX0_cheapen_31 ?_
      refine J_aload_n (pc := 32) dX0_cheapen_32 rfl 0 rfl ?_
      refine get_44_4 (pc := 33) w_103 dX0_cheapen_33 ?_
      refine J_iload_n (pc := 36) dX0_cheapen_36 rfl 3 rfl ?_
      refine J_sipush (v := (4096 : Int32)) (pc := 37) dX0_cheapen_37 (by decide) ?_
      refine J_imul (pc := 40) dX0_cheapen_40 ?_
      refine J_aload_n (pc := 41) dX0_cheapen_41 rfl 0 rfl ?_
      refine get_44_5 (pc := 42) w_104 dX0_cheapen_42 ?_
      refine J_iload_n (pc := 45) dX0_cheapen_45 rfl 3 rfl ?_
      obtain ⟨v12, e13, hk14, h⟩ := ldi_e h
      refine J_iald (c := 50) (N := 4) (pc := 46) ja_50 (Nat.le_of_ble_eq_true rfl) hk14 dX0_cheapen_46 ?_
      refine J_topi (e13.trans (congrFun (Eq.symm (show (upI M 47 a1.toNatClampNeg a2).1 50 = M.1 50 from (rI_ne (Nat.ne_of_beq_eq_false rfl) rfl))) _)) ?_
      refine J_iadd (pc := 47) dX0_cheapen_47 ?_
      refine J_iload_n (pc := 48) dX0_cheapen_48 rfl 1 rfl ?_
      obtain ⟨hk15, h⟩ := inb_e h
      refine J_iast (c := 49) (N := 16384) (pc := 49) (fun _ => ja_49) (Nat.le_of_ble_eq_true rfl) hk15 dX0_cheapen_49 ?_
      refine J_aload_n (pc := 50) dX0_cheapen_50 rfl 0 rfl ?_
      refine get_44_5 (pc := 51) w_104 dX0_cheapen_51 ?_
      refine J_iload_n (pc := 54) dX0_cheapen_54 rfl 3 rfl ?_
      refine J_dup2 (pc := 55) dX0_cheapen_55 rfl rfl ?_
      obtain ⟨v16, e17, hk18, h⟩ := ldi_e h
      refine J_iald (c := 50) (N := 4) (pc := 56) ja_50 (Nat.le_of_ble_eq_true rfl) hk18 dX0_cheapen_56 ?_
      refine J_topi (e17.trans (congrFun (Eq.symm (show (upI (upI M 47 a1.toNatClampNeg a2) 49 ((v1 * (4096 : Int32)) + v12).toNatClampNeg a1).1 50 = M.1 50 from (rI_ne (Nat.ne_of_beq_eq_false rfl) (rI_ne (Nat.ne_of_beq_eq_false rfl) rfl)))) _)) ?_
      refine J_iconst (v := (1 : Int32)) (pc := 57) dX0_cheapen_57 (by decide) ?_
      refine J_iadd (pc := 58) dX0_cheapen_58 ?_
      obtain ⟨hk19, h⟩ := inb_e h
      refine J_iast (c := 50) (N := 4) (pc := 59) (fun _ => ja_50) (Nat.le_of_ble_eq_true rfl) hk19 dX0_cheapen_59 ?_
      cases h
      exact J_return dX0_cheapen_60 rfl rfl rfl rfl rfl
set_option maxHeartbeats 4000000 in
set_option maxRecDepth 100000 in
theorem k_X0_inBucket {E : En} (a1 : Int32) (a2 : Int32) (M : Wd) {r : Int32} (h : F_X0_inBucket a1 a2 M = some r) : Con E mi_X0_inBucket [.ref 44, .int a1, .int a2] M (.inl (some (.int r))) M := by
  unfold F_X0_inBucket at h
  refine Con.of (by decide) rfl (Nat.le_of_ble_eq_true rfl) (fun κ => ?_)
  show J κ E mi_X0_inBucket _ 0 0 [(0, .ref 44), (1, .int a1), (2, .int a2)] M 0 []
  refine J_iload_n (pc := 0) dX0_inBucket_0 rfl 1 rfl ?_
  refine J_iconst (v := (3 : Int32)) (pc := 1) dX0_inBucket_1 (by decide) ?_
  refine J_iand (pc := 2) dX0_inBucket_2 ?_
  refine J_sipush (v := (4096 : Int32)) (pc := 3) dX0_inBucket_3 (by decide) ?_
  refine J_imul (pc := 6) dX0_inBucket_6 ?_
  refine J_iload_n (pc := 7) dX0_inBucket_7 rfl 2 rfl ?_
  refine J_iadd (pc := 8) dX0_inBucket_8 ?_
  obtain ⟨v1, e2, h⟩ := bnd_e h
  refine J_topi e2 ?_
  refine J_istore_n (pc := 9) dX0_inBucket_9 rfl (Nat.le_of_ble_eq_true rfl) [1, 2, 3, 0] rfl ?_
  refine J_iload_n (pc := 10) dX0_inBucket_10 rfl 3 rfl ?_
  obtain ⟨v3, hv9, h⟩ := obind_e h
  refine J_join [(0, .ref 44), (1, .int a1)] M 31 [.int v3] ?_ (fun hJ => ?_)
  · refine J_istore (pc := 31) dX0_inBucket_31 (Nat.le_of_ble_eq_true rfl) [1, 2, 0] rfl ?_
    refine J_aload_n (pc := 33) dX0_inBucket_33 rfl 0 rfl ?_
    refine J_iload (pc := 34) dX0_inBucket_34 2 rfl ?_
    obtain ⟨v10, hc11, h⟩ := obind_e h
    refine J_callV (g := mi_X0_costOf) (ci := 0) (pc := 36) [.int v3] [] mv_X0_costOf w_296 (k_X0_costOf  v3 _ hc11) rfl (by decide) rfl rfl rfl ⟨⟨Nat.le_of_ble_eq_true rfl, Nat.le_of_ble_eq_true rfl⟩, Nat.le_of_ble_eq_true rfl, Nat.le_of_ble_eq_true rfl⟩ (Nat.le_of_ble_eq_true rfl) dX0_inBucket_36 (Jk_v rfl rfl fun hok12 => ?_)
    refine J_iload_n (pc := 39) dX0_inBucket_39 rfl 1 rfl ?_
    refine J_icmp_ne (pc := 40) (tgt := 48) dX0_inBucket_40 (by decide) (fun c13 => ?_) (fun c13 => ?_)
    · replace h := ifn c13 h
      refine J_iconst (v := (-1 : Int32)) (pc := 48) dX0_inBucket_48 (by decide) ?_
      cases h
      exact J_ireturn dX0_inBucket_49 rfl rfl rfl rfl rfl
    · replace h := ifp c13 h
      refine J_iload (pc := 43) dX0_inBucket_43 2 rfl ?_
      refine J_goto (pc := 45) (tgt := 49) dX0_inBucket_45 (by decide) ?_
      cases h
      exact J_ireturn dX0_inBucket_49 rfl rfl rfl rfl rfl
  · replace h := hv9
    refine J_if_lt (pc := 11) (tgt := 30) dX0_inBucket_11 (by decide) (fun c4 => ?_) (fun c4 => ?_)
    · replace h := ifp c4 h
      refine J_iconst (v := (-1 : Int32)) (pc := 30) dX0_inBucket_30 (by decide) ?_
      cases h
      refine J_sub [0, 1] rfl ?_
      exact hJ
    · replace h := ifn c4 h
      refine J_iload_n (pc := 14) dX0_inBucket_14 rfl 3 rfl ?_
      refine J_sipush (v := (16384 : Int32)) (pc := 15) dX0_inBucket_15 (by decide) ?_
      refine J_icmp_ge (pc := 18) (tgt := 30) dX0_inBucket_18 (by decide) (fun c5 => ?_) (fun c5 => ?_)
      · replace h := ifp c5 h
        refine J_iconst (v := (-1 : Int32)) (pc := 30) dX0_inBucket_30 (by decide) ?_
        cases h
        refine J_sub [0, 1] rfl ?_
        exact hJ
      · replace h := ifn c5 h
        refine J_aload_n (pc := 21) dX0_inBucket_21 rfl 0 rfl ?_
        refine get_44_4 (pc := 22) w_103 dX0_inBucket_22 ?_
        refine J_iload_n (pc := 25) dX0_inBucket_25 rfl 3 rfl ?_
        obtain ⟨v6, e7, hk8, h⟩ := ldi_e h
        refine J_iald (c := 49) (N := 16384) (pc := 26) ja_49 (Nat.le_of_ble_eq_true rfl) hk8 dX0_inBucket_26 ?_
        refine J_topi e7 ?_
        refine J_goto (pc := 27) (tgt := 31) dX0_inBucket_27 (by decide) ?_
        cases h
        refine J_sub [0, 1] rfl ?_
        exact hJ
set_option maxHeartbeats 4000000 in
set_option maxRecDepth 100000 in
theorem kL_X0_emptyBucket_L27 {κ : Kx} {E : En} {Q : State → Prop} {ρ : Type} {r : ρ} (a1 : Int32) (a2 : Int32) (a3 : Int32) (a4 : Int32) (K99 : Wd → Option ρ) (hK99 : ∀ (M : Wd), K99 M = some r → J κ E mi_X0_emptyBucket Q 0 0 [(0, .ref 44), (1, .int a1), (2, .int a2), (3, .int a3)] M 99 []) : ∀ (m : Nat) (x5 : Int32) (M : Wd), F_X0_emptyBucket_L27 a1 a2 a3 a4 K99 m x5 M = some r → J κ E mi_X0_emptyBucket Q 0 0 [(0, .ref 44), (1, .int a1), (2, .int a2), (3, .int a3), (4, .int a4), (5, .int x5)] M 27 [] := by
  intro m
  induction m with
  | zero => intro x5 M h; exact (nomatch (show (none : Option ρ) = some r from h))
  | succ m ih =>
    intro x5 M h
    unfold F_X0_emptyBucket_L27 at h
    refine J_iload (pc := 27) dX0_emptyBucket_27 5 rfl ?_
    refine J_aload_n (pc := 29) dX0_emptyBucket_29 rfl 0 rfl ?_
    refine get_44_6 (pc := 30) w_105 dX0_emptyBucket_30 ?_
    refine J_icmp_ge (pc := 33) (tgt := 99) dX0_emptyBucket_33 (by decide) (fun c8 => ?_) (fun c8 => ?_)
    · replace h := ifp c8 h
      refine J_sub [0, 1, 2, 3] rfl ?_
      exact hK99 _ h
    · replace h := ifn c8 h
      refine J_iload (pc := 36) dX0_emptyBucket_36 5 rfl ?_
      refine J_bipush (v := (6 : Int32)) (pc := 38) dX0_emptyBucket_38 (by decide) ?_
      refine J_icmp_ge (pc := 40) (tgt := 99) dX0_emptyBucket_40 (by decide) (fun c9 => ?_) (fun c9 => ?_)
      · replace h := ifp c9 h
        refine J_sub [0, 1, 2, 3] rfl ?_
        exact hK99 _ h
      · replace h := ifn c9 h
        refine J_iload (pc := 43) dX0_emptyBucket_43 4 rfl ?_
        refine J_iconst (v := (-1 : Int32)) (pc := 45) dX0_emptyBucket_45 (by decide) ?_
        refine J_icmp_eq (pc := 46) (tgt := 99) dX0_emptyBucket_46 (by decide) (fun c10 => ?_) (fun c10 => ?_)
        · replace h := ifp c10 h
          refine J_sub [0, 1, 2, 3] rfl ?_
          exact hK99 _ h
        · replace h := ifn c10 h
          refine J_aload_n (pc := 49) dX0_emptyBucket_49 rfl 0 rfl ?_
          refine J_aload_n (pc := 50) dX0_emptyBucket_50 rfl 0 rfl ?_
          refine J_iload (pc := 51) dX0_emptyBucket_51 4 rfl ?_
          refine J_iload (pc := 53) dX0_emptyBucket_53 5 rfl ?_
          refine J_iconst (v := (1 : Int32)) (pc := 55) dX0_emptyBucket_55 (by decide) ?_
          obtain ⟨v11, hc12, h⟩ := obind_e h
          refine J_callV (g := mi_X0_behindStep) (ci := 0) (pc := 56) [.int a4, .int x5, .int (1 : Int32)] [.ref 44] mv_X0_behindStep w_308 (k_X0_behindStep  a4 x5 (1 : Int32) _ hc12) rfl (by decide) rfl rfl rfl ⟨⟨Nat.le_of_ble_eq_true rfl, Nat.le_of_ble_eq_true rfl⟩, Nat.le_of_ble_eq_true rfl, Nat.le_of_ble_eq_true rfl⟩ (Nat.le_of_ble_eq_true rfl) dX0_emptyBucket_56 (Jk_v rfl rfl fun hok13 => ?_)
          refine J_iload_n (pc := 59) dX0_emptyBucket_59 rfl 1 rfl ?_
          refine J_aload_n (pc := 60) dX0_emptyBucket_60 rfl 0 rfl ?_
          refine get_44_0 (pc := 61) w_99 dX0_emptyBucket_61 ?_
          refine J_iload (pc := 64) dX0_emptyBucket_64 5 rfl ?_
          obtain ⟨v14, e15, hk16, h⟩ := ldi_e h
          refine J_iald (c := 45) (N := 6) (pc := 66) ja_45 (Nat.le_of_ble_eq_true rfl) hk16 dX0_emptyBucket_66 ?_
          refine J_topi e15 ?_
          refine J_iadd (pc := 67) dX0_emptyBucket_67 ?_
          obtain ⟨M17, hc18, h⟩ := obind_e h
          refine J_callV (g := mi_X0_cheapen) (ci := 0) (pc := 68) [.int v11, .int (a1 + v14)] [] mv_X0_cheapen w_332 (k_X0_cheapen v11 (a1 + v14) _ hc18) rfl (by decide) rfl rfl rfl ⟨⟨Nat.le_of_ble_eq_true rfl, Nat.le_of_ble_eq_true rfl⟩, Nat.le_of_ble_eq_true rfl, Nat.le_of_ble_eq_true rfl⟩ (Nat.le_of_ble_eq_true rfl) dX0_emptyBucket_68 (Jk_0 rfl rfl ?_)
          refine J_aload_n (pc := 71) dX0_emptyBucket_71 rfl 0 rfl ?_
          refine J_aload_n (pc := 72) dX0_emptyBucket_72 rfl 0 rfl ?_
          refine J_iload (pc := 73) dX0_emptyBucket_73 4 rfl ?_
          refine J_iload (pc := 75) dX0_emptyBucket_75 5 rfl ?_
          refine J_iconst (v := (-1 : Int32)) (pc := 77) dX0_emptyBucket_77 (by decide) ?_
          obtain ⟨v19, hc20, h⟩ := obind_e h
          refine J_callV (g := mi_X0_behindStep) (ci := 0) (pc := 78) [.int a4, .int x5, .int (-1 : Int32)] [.ref 44] mv_X0_behindStep w_308 (k_X0_behindStep  a4 x5 (-1 : Int32) _ hc20) rfl (by decide) rfl rfl rfl ⟨⟨Nat.le_of_ble_eq_true rfl, Nat.le_of_ble_eq_true rfl⟩, Nat.le_of_ble_eq_true rfl, Nat.le_of_ble_eq_true rfl⟩ (Nat.le_of_ble_eq_true rfl) dX0_emptyBucket_78 (Jk_v rfl rfl fun hok21 => ?_)
          refine J_iload_n (pc := 81) dX0_emptyBucket_81 rfl 1 rfl ?_
          refine J_aload_n (pc := 82) dX0_emptyBucket_82 rfl 0 rfl ?_
          refine get_44_0 (pc := 83) w_99 dX0_emptyBucket_83 ?_
          refine J_iload (pc := 86) dX0_emptyBucket_86 5 rfl ?_
          obtain ⟨v22, e23, hk24, h⟩ := ldi_e h
          refine J_iald (c := 45) (N := 6) (pc := 88) ja_45 (Nat.le_of_ble_eq_true rfl) hk24 dX0_emptyBucket_88 ?_
          refine J_topi e23 ?_
          refine J_iadd (pc := 89) dX0_emptyBucket_89 ?_
          obtain ⟨M25, hc26, h⟩ := obind_e h
          refine J_callV (g := mi_X0_cheapen) (ci := 0) (pc := 90) [.int v19, .int (a1 + v22)] [] mv_X0_cheapen w_332 (k_X0_cheapen v19 (a1 + v22) _ hc26) rfl (by decide) rfl rfl rfl ⟨⟨Nat.le_of_ble_eq_true rfl, Nat.le_of_ble_eq_true rfl⟩, Nat.le_of_ble_eq_true rfl, Nat.le_of_ble_eq_true rfl⟩ (Nat.le_of_ble_eq_true rfl) dX0_emptyBucket_90 (Jk_0 rfl rfl ?_)
          obtain ⟨v27, e28, h⟩ := bnd_e h
          refine J_iinc (v := v27) (pc := 93) dX0_emptyBucket_93 5 rfl (by rw [e28]; rfl) (Nat.le_of_ble_eq_true rfl) [1, 2, 3, 4, 5, 0] rfl ?_
          refine J_goto (pc := 96) (tgt := 27) dX0_emptyBucket_96 (by decide) ?_
          exact ih _ _ h
set_option maxHeartbeats 4000000 in
set_option maxRecDepth 100000 in
theorem kL_X0_emptyBucket_L11 {κ : Kx} {E : En} {Q : State → Prop} {ρ : Type} {r : ρ} (a1 : Int32) (a2 : Int32) (K105 : Wd → Option ρ) (hK105 : ∀ (M : Wd), K105 M = some r → J κ E mi_X0_emptyBucket Q 0 0 [(0, .ref 44), (1, .int a1)] M 105 []) : ∀ (m : Nat) (x3 : Int32) (M : Wd), F_X0_emptyBucket_L11 a1 a2 K105 m x3 M = some r → J κ E mi_X0_emptyBucket Q 0 0 [(0, .ref 44), (1, .int a1), (2, .int a2), (3, .int x3)] M 11 [] := by
  intro m
  induction m with
  | zero => intro x3 M h; exact (nomatch (show (none : Option ρ) = some r from h))
  | succ m ih =>
    intro x3 M h
    unfold F_X0_emptyBucket_L11 at h
    refine J_iload_n (pc := 11) dX0_emptyBucket_11 rfl 3 rfl ?_
    refine J_iload_n (pc := 12) dX0_emptyBucket_12 rfl 2 rfl ?_
    refine J_icmp_ge (pc := 13) (tgt := 105) dX0_emptyBucket_13 (by decide) (fun c4 => ?_) (fun c4 => ?_)
    · replace h := ifp c4 h
      refine J_sub [0, 1] rfl ?_
      exact hK105 _ h
    · replace h := ifn c4 h
      refine J_aload_n (pc := 16) dX0_emptyBucket_16 rfl 0 rfl ?_
      refine J_iload_n (pc := 17) dX0_emptyBucket_17 rfl 1 rfl ?_
      refine J_iload_n (pc := 18) dX0_emptyBucket_18 rfl 3 rfl ?_
      obtain ⟨v5, hc6, h⟩ := obind_e h
      refine J_callV (g := mi_X0_inBucket) (ci := 0) (pc := 19) [.int a1, .int x3] [] mv_X0_inBucket w_348 (k_X0_inBucket  a1 x3 _ hc6) rfl (by decide) rfl rfl rfl ⟨⟨Nat.le_of_ble_eq_true rfl, Nat.le_of_ble_eq_true rfl⟩, Nat.le_of_ble_eq_true rfl, Nat.le_of_ble_eq_true rfl⟩ (Nat.le_of_ble_eq_true rfl) dX0_emptyBucket_19 (Jk_v rfl rfl fun hok7 => ?_)
      refine J_istore (pc := 22) dX0_emptyBucket_22 (Nat.le_of_ble_eq_true rfl) [1, 2, 3, 4, 0] rfl ?_
      refine J_iconst (v := (0 : Int32)) (pc := 24) dX0_emptyBucket_24 (by decide) ?_
      refine J_istore (pc := 25) dX0_emptyBucket_25 (Nat.le_of_ble_eq_true rfl) [1, 2, 3, 4, 5, 0] rfl ?_
      refine J_LS [(0, .ref 44), (1, .int a1), (2, .int a2), (3, .int x3), (4, .int v5), (5, .int (0 : Int32))] [] rfl rfl ?_
      refine kL_X0_emptyBucket_L27 _ _ _ _ _ (fun M29 h => ?_) fuelN _ _ h
      obtain ⟨v30, e31, h⟩ := bnd_e h
      refine J_iinc (v := v30) (pc := 99) dX0_emptyBucket_99 3 rfl (by rw [e31]; rfl) (Nat.le_of_ble_eq_true rfl) [1, 2, 3, 0] rfl ?_
      refine J_goto (pc := 102) (tgt := 11) dX0_emptyBucket_102 (by decide) ?_
      exact ih _ _ h
set_option maxHeartbeats 4000000 in
set_option maxRecDepth 100000 in
theorem k_X0_emptyBucket {E : En} (a1 : Int32) (M : Wd) {M' : Wd} (h : F_X0_emptyBucket a1 M = some M') : Con E mi_X0_emptyBucket [.ref 44, .int a1] M (.inl none) M' := by
  unfold F_X0_emptyBucket at h
  refine Con.of (by decide) rfl (Nat.le_of_ble_eq_true rfl) (fun κ => ?_)
  show J κ E mi_X0_emptyBucket _ 0 0 [(0, .ref 44), (1, .int a1)] M 0 []
  refine J_aload_n (pc := 0) dX0_emptyBucket_0 rfl 0 rfl ?_
  refine get_44_5 (pc := 1) w_104 dX0_emptyBucket_1 ?_
  refine J_iload_n (pc := 4) dX0_emptyBucket_4 rfl 1 rfl ?_
  refine J_iconst (v := (3 : Int32)) (pc := 5) dX0_emptyBucket_5 (by decide) ?_
  refine J_iand (pc := 6) dX0_emptyBucket_6 ?_
  obtain ⟨v1, e2, hk3, h⟩ := ldi_e h
  refine J_iald (c := 50) (N := 4) (pc := 7) ja_50 (Nat.le_of_ble_eq_true rfl) hk3 dX0_emptyBucket_7 ?_
  refine J_topi e2 ?_
  refine J_istore_n (pc := 8) dX0_emptyBucket_8 rfl (Nat.le_of_ble_eq_true rfl) [1, 2, 0] rfl ?_
  refine J_iconst (v := (0 : Int32)) (pc := 9) dX0_emptyBucket_9 (by decide) ?_
  refine J_istore_n (pc := 10) dX0_emptyBucket_10 rfl (Nat.le_of_ble_eq_true rfl) [1, 2, 3, 0] rfl ?_
  refine J_LS [(0, .ref 44), (1, .int a1), (2, .int v1), (3, .int (0 : Int32))] [] rfl rfl ?_
  refine kL_X0_emptyBucket_L11 _ _ _ (fun M32 h => ?_) fuelN _ _ h
  refine J_aload_n (pc := 105) dX0_emptyBucket_105 rfl 0 rfl ?_
  refine get_44_5 (pc := 106) w_104 dX0_emptyBucket_106 ?_
  refine J_iload_n (pc := 109) dX0_emptyBucket_109 rfl 1 rfl ?_
  refine J_iconst (v := (3 : Int32)) (pc := 110) dX0_emptyBucket_110 (by decide) ?_
  refine J_iand (pc := 111) dX0_emptyBucket_111 ?_
  refine J_iconst (v := (0 : Int32)) (pc := 112) dX0_emptyBucket_112 (by decide) ?_
  obtain ⟨hk33, h⟩ := inb_e h
  refine J_iast (c := 50) (N := 4) (pc := 113) (fun _ => ja_50) (Nat.le_of_ble_eq_true rfl) hk33 dX0_emptyBucket_113 ?_
  cases h
  exact J_return dX0_emptyBucket_114 rfl rfl rfl rfl rfl
set_option maxHeartbeats 4000000 in
set_option maxRecDepth 100000 in
theorem kL_X0_hasOutFor_L2 {κ : Kx} {E : En} {Q : State → Prop} {ρ : Type} {r : ρ} (a1 : Int32) (M : Wd) (K34 : Option ρ) (K42 : Option ρ) (hK34 : K34 = some r → J κ E mi_X0_hasOutFor Q 0 0 [] M 34 []) (hK42 : K42 = some r → J κ E mi_X0_hasOutFor Q 0 0 [] M 42 []) : ∀ (m : Nat) (x2 : Int32), F_X0_hasOutFor_L2 a1 M K34 K42 m x2 = some r → J κ E mi_X0_hasOutFor Q 0 0 [(0, .ref 44), (1, .int a1), (2, .int x2)] M 2 [] := by
  intro m
  induction m with
  | zero => intro x2 h; exact (nomatch (show (none : Option ρ) = some r from h))
  | succ m ih =>
    intro x2 h
    unfold F_X0_hasOutFor_L2 at h
    refine J_iload_n (pc := 2) dX0_hasOutFor_2 rfl 2 rfl ?_
    refine J_aload_n (pc := 3) dX0_hasOutFor_3 rfl 0 rfl ?_
    refine get_44_5 (pc := 4) w_104 dX0_hasOutFor_4 ?_
    refine J_iload_n (pc := 7) dX0_hasOutFor_7 rfl 1 rfl ?_
    refine J_iconst (v := (3 : Int32)) (pc := 8) dX0_hasOutFor_8 (by decide) ?_
    refine J_iand (pc := 9) dX0_hasOutFor_9 ?_
    obtain ⟨v1, e2, hk3, h⟩ := ldi_e h
    refine J_iald (c := 50) (N := 4) (pc := 10) ja_50 (Nat.le_of_ble_eq_true rfl) hk3 dX0_hasOutFor_10 ?_
    refine J_topi e2 ?_
    refine J_icmp_ge (pc := 11) (tgt := 42) dX0_hasOutFor_11 (by decide) (fun c4 => ?_) (fun c4 => ?_)
    · replace h := ifp c4 h
      refine J_sub [] rfl ?_
      exact hK42 h
    · replace h := ifn c4 h
      refine J_aload_n (pc := 14) dX0_hasOutFor_14 rfl 0 rfl ?_
      refine J_iload_n (pc := 15) dX0_hasOutFor_15 rfl 1 rfl ?_
      refine J_iload_n (pc := 16) dX0_hasOutFor_16 rfl 2 rfl ?_
      obtain ⟨v5, hc6, h⟩ := obind_e h
      refine J_callV (g := mi_X0_inBucket) (ci := 0) (pc := 17) [.int a1, .int x2] [] mv_X0_inBucket w_348 (k_X0_inBucket  a1 x2 _ hc6) rfl (by decide) rfl rfl rfl ⟨⟨Nat.le_of_ble_eq_true rfl, Nat.le_of_ble_eq_true rfl⟩, Nat.le_of_ble_eq_true rfl, Nat.le_of_ble_eq_true rfl⟩ (Nat.le_of_ble_eq_true rfl) dX0_hasOutFor_17 (Jk_v rfl rfl fun hok7 => ?_)
      refine J_istore_n (pc := 20) dX0_hasOutFor_20 rfl (Nat.le_of_ble_eq_true rfl) [1, 2, 3, 0] rfl ?_
      refine J_iload_n (pc := 21) dX0_hasOutFor_21 rfl 3 rfl ?_
      refine J_iconst (v := (-1 : Int32)) (pc := 22) dX0_hasOutFor_22 (by decide) ?_
      refine J_icmp_eq (pc := 23) (tgt := 36) dX0_hasOutFor_23 (by decide) (fun c8 => ?_) (fun c8 => ?_)
      · replace h := ifp c8 h
        obtain ⟨v9, e10, h⟩ := bnd_e h
        refine J_iinc (v := v9) (pc := 36) dX0_hasOutFor_36 2 rfl (by rw [e10]; rfl) (Nat.le_of_ble_eq_true rfl) [1, 2, 0, 3] rfl ?_
        refine J_LS [(0, .ref 44), (1, .int a1), (2, .int v9), (3, .int v5)] [] rfl rfl ?_
        refine J_goto (pc := 39) (tgt := 2) dX0_hasOutFor_39 (by decide) ?_
        refine J_sub [0, 1, 2] rfl ?_
        exact ih _ h
      · replace h := ifn c8 h
        refine J_aload_n (pc := 26) dX0_hasOutFor_26 rfl 0 rfl ?_
        refine J_iload_n (pc := 27) dX0_hasOutFor_27 rfl 3 rfl ?_
        refine J_callV (g := mi_X0_isOutIn) (ci := 0) (pc := 28) [.int v5] [] mv_X0_isOutIn w_316 (k_X0_isOutIn  v5 _) rfl (by decide) rfl rfl rfl ⟨⟨Nat.le_of_ble_eq_true rfl, Nat.le_of_ble_eq_true rfl⟩, Nat.le_of_ble_eq_true rfl, Nat.le_of_ble_eq_true rfl⟩ (Nat.le_of_ble_eq_true rfl) dX0_hasOutFor_28 (Jk_v rfl rfl fun hok11 => ?_)
        refine J_if_eq (pc := 31) (tgt := 36) dX0_hasOutFor_31 (by decide) (fun c12 => ?_) (fun c12 => ?_)
        · replace h := ifp c12 h
          obtain ⟨v13, e14, h⟩ := bnd_e h
          refine J_iinc (v := v13) (pc := 36) dX0_hasOutFor_36 2 rfl (by rw [e14]; rfl) (Nat.le_of_ble_eq_true rfl) [1, 2, 0, 3] rfl ?_
          refine J_LS [(0, .ref 44), (1, .int a1), (2, .int v13), (3, .int v5)] [] rfl rfl ?_
          refine J_goto (pc := 39) (tgt := 2) dX0_hasOutFor_39 (by decide) ?_
          refine J_sub [0, 1, 2] rfl ?_
          exact ih _ h
        · replace h := ifn c12 h
          refine J_sub [] rfl ?_
          exact hK34 h
set_option maxHeartbeats 4000000 in
set_option maxRecDepth 100000 in
theorem k_X0_hasOutFor {E : En} (a1 : Int32) (M : Wd) {r : Int32} (h : F_X0_hasOutFor a1 M = some r) : Con E mi_X0_hasOutFor [.ref 44, .int a1] M (.inl (some (.int r))) M := by
  unfold F_X0_hasOutFor at h
  refine Con.of (by decide) rfl (Nat.le_of_ble_eq_true rfl) (fun κ => ?_)
  show J κ E mi_X0_hasOutFor _ 0 0 [(0, .ref 44), (1, .int a1)] M 0 []
  refine J_iconst (v := (0 : Int32)) (pc := 0) dX0_hasOutFor_0 (by decide) ?_
  refine J_istore_n (pc := 1) dX0_hasOutFor_1 rfl (Nat.le_of_ble_eq_true rfl) [1, 2, 0] rfl ?_
  refine kL_X0_hasOutFor_L2 _ _ _ _ (fun h => ?_) (fun h => ?_) fuelN _ h
  · refine J_iconst (v := (1 : Int32)) (pc := 34) dX0_hasOutFor_34 (by decide) ?_
    cases h
    exact J_zreturn dX0_hasOutFor_35 rfl (Or.inr rfl) rfl rfl rfl rfl
  · refine J_iconst (v := (0 : Int32)) (pc := 42) dX0_hasOutFor_42 (by decide) ?_
    cases h
    exact J_zreturn dX0_hasOutFor_43 rfl (Or.inl rfl) rfl rfl rfl rfl
set_option maxHeartbeats 4000000 in
set_option maxRecDepth 100000 in
theorem k_X0_isAnyFilled {E : En} (M : Wd) : Con E mi_X0_isAnyFilled [.ref 44] M (.inl (some (.int (F_X0_isAnyFilled M)))) M := by
  obtain ⟨r, h⟩ : ∃ r, F_X0_isAnyFilled M = r := ⟨_, rfl⟩
  rw [h]
  unfold F_X0_isAnyFilled at h
  refine Con.of (by decide) rfl (Nat.le_of_ble_eq_true rfl) (fun κ => ?_)
  show J κ E mi_X0_isAnyFilled _ 0 0 [(0, .ref 44)] M 0 []
  refine J_aload_n (pc := 0) dX0_isAnyFilled_0 rfl 0 rfl ?_
  refine get_44_5 (pc := 1) w_104 dX0_isAnyFilled_1 ?_
  refine J_iconst (v := (0 : Int32)) (pc := 4) dX0_isAnyFilled_4 (by decide) ?_
  refine J_iald (c := 50) (N := 4) (pc := 5) ja_50 (Nat.le_of_ble_eq_true rfl) (vpc rfl) dX0_isAnyFilled_5 ?_
  refine J_topi (x := M.1 50 (Int32.toNatClampNeg 0)) (y := (M.1 50 0)) (Eq.symm (a := M.1 50 (Int32.toNatClampNeg 0)) (show M.1 50 0 = (M.1 50 0) from rfl)) ?_
  refine J_aload_n (pc := 6) dX0_isAnyFilled_6 rfl 0 rfl ?_
  refine get_44_5 (pc := 7) w_104 dX0_isAnyFilled_7 ?_
  refine J_iconst (v := (1 : Int32)) (pc := 10) dX0_isAnyFilled_10 (by decide) ?_
  refine J_iald (c := 50) (N := 4) (pc := 11) ja_50 (Nat.le_of_ble_eq_true rfl) (vpc rfl) dX0_isAnyFilled_11 ?_
  refine J_topi (x := M.1 50 (Int32.toNatClampNeg 1)) (y := (M.1 50 1)) (Eq.symm (a := M.1 50 (Int32.toNatClampNeg 1)) (show M.1 50 1 = (M.1 50 1) from rfl)) ?_
  refine J_iadd (pc := 12) dX0_isAnyFilled_12 ?_
  refine J_aload_n (pc := 13) dX0_isAnyFilled_13 rfl 0 rfl ?_
  refine get_44_5 (pc := 14) w_104 dX0_isAnyFilled_14 ?_
  refine J_iconst (v := (2 : Int32)) (pc := 17) dX0_isAnyFilled_17 (by decide) ?_
  refine J_iald (c := 50) (N := 4) (pc := 18) ja_50 (Nat.le_of_ble_eq_true rfl) (vpc rfl) dX0_isAnyFilled_18 ?_
  refine J_topi (x := M.1 50 (Int32.toNatClampNeg 2)) (y := (M.1 50 2)) (Eq.symm (a := M.1 50 (Int32.toNatClampNeg 2)) (show M.1 50 2 = (M.1 50 2) from rfl)) ?_
  refine J_iadd (pc := 19) dX0_isAnyFilled_19 ?_
  refine J_aload_n (pc := 20) dX0_isAnyFilled_20 rfl 0 rfl ?_
  refine get_44_5 (pc := 21) w_104 dX0_isAnyFilled_21 ?_
  refine J_iconst (v := (3 : Int32)) (pc := 24) dX0_isAnyFilled_24 (by decide) ?_
  refine J_iald (c := 50) (N := 4) (pc := 25) ja_50 (Nat.le_of_ble_eq_true rfl) (vpc rfl) dX0_isAnyFilled_25 ?_
  refine J_topi (x := M.1 50 (Int32.toNatClampNeg 3)) (y := (M.1 50 3)) (Eq.symm (a := M.1 50 (Int32.toNatClampNeg 3)) (show M.1 50 3 = (M.1 50 3) from rfl)) ?_
  refine J_iadd (pc := 26) dX0_isAnyFilled_26 ?_
  refine J_if_le (pc := 27) (tgt := 34) dX0_isAnyFilled_27 (by decide) (fun c1 => ?_) (fun c1 => ?_)
  · replace h := ifp c1 h
    refine J_iconst (v := (0 : Int32)) (pc := 34) dX0_isAnyFilled_34 (by decide) ?_
    subst h
    exact J_zreturn dX0_isAnyFilled_35 rfl (Or.inl rfl) rfl rfl rfl rfl
  · replace h := ifn c1 h
    refine J_iconst (v := (1 : Int32)) (pc := 30) dX0_isAnyFilled_30 (by decide) ?_
    refine J_goto (pc := 31) (tgt := 35) dX0_isAnyFilled_31 (by decide) ?_
    subst h
    exact J_zreturn dX0_isAnyFilled_35 rfl (Or.inr rfl) rfl rfl rfl rfl

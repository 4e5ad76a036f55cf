/-! ===== walks of the methods, 9 ===== -/
set_option maxHeartbeats 4000000 in
set_option maxRecDepth 100000 in
theorem k_X3_hashOfPlans {E : En} (a1 : Int64) (M : Wd) {r : Int64} {M' : Wd} (h : F_X3_hashOfPlans a1 M = some (r, M')) : Con E mi_X3_hashOfPlans [.ref 0, .long a1] M (.inl (some (.long r))) M' := by
  unfold F_X3_hashOfPlans at h
  refine Con.of (by decide) rfl (Nat.le_of_ble_eq_true rfl) (fun κ => ?_)
  show J κ E mi_X3_hashOfPlans _ 0 0 [(0, .ref 0), (1, .long a1)] M 0 []
  refine J_lload_n (pc := 0) dX3_hashOfPlans_0 rfl 1 rfl ?_
  refine J_aload_n (pc := 1) dX3_hashOfPlans_1 rfl 0 rfl ?_
  refine J_LS [(0, .ref 0), (1, .long a1)] [.ref 0, .long a1] rfl rfl ?_
  refine get_0_3 (pc := 2) w_219 dX3_hashOfPlans_2 ?_
  obtain ⟨v1, M2, hc3, h⟩ := obind2_e h
  refine J_callV (g := mi_X0_slidesFromStart) (ci := 0) (pc := 5) [] [.long a1] mv_X0_slidesFromStart w_418 (k_X0_slidesFromStart _ hc3) rfl (by decide) rfl rfl rfl ⟨⟨Nat.le_of_ble_eq_true rfl, Nat.le_of_ble_eq_true rfl⟩, Nat.le_of_ble_eq_true rfl, Nat.le_of_ble_eq_true rfl⟩ (Nat.le_of_ble_eq_true rfl) dX3_hashOfPlans_5 (Jk_v rfl rfl fun hok4 => ?_)
  refine J_i2l (pc := 8) dX3_hashOfPlans_8 ?_
  refine J_callS (g := mi_X3_mix) (pc := 9) [.long a1, .long v1.toInt64] [] ms_X3_mix w_567 (k_X3_mix a1 v1.toInt64 _) rfl rfl ⟨⟨Nat.le_of_ble_eq_true rfl, Nat.le_of_ble_eq_true rfl⟩, Nat.le_of_ble_eq_true rfl, Nat.le_of_ble_eq_true rfl⟩ (Nat.le_of_ble_eq_true rfl) dX3_hashOfPlans_9 (Jk_v rfl rfl fun hok5 => ?_)
  obtain ⟨v6, e7, h⟩ := bnd_e h
  refine J_topl e7 ?_
  refine J_lstore_n (pc := 12) dX3_hashOfPlans_12 rfl (Nat.le_of_ble_eq_true rfl) [1, 2, 0] rfl ?_
  refine J_lload_n (pc := 13) dX3_hashOfPlans_13 rfl 2 rfl ?_
  refine J_LS [(0, .ref 0), (1, .long a1), (3, .long v6)] [.long v6] rfl rfl ?_
  refine J_aload_n (pc := 14) dX3_hashOfPlans_14 rfl 0 rfl ?_
  refine get_0_3 (pc := 15) w_219 dX3_hashOfPlans_15 ?_
  obtain ⟨v8, M9, hc10, h⟩ := obind2_e h
  refine J_callV (g := mi_X0_slidesFromEnds) (ci := 0) (pc := 18) [] [.long v6] mv_X0_slidesFromEnds w_466 (k_X0_slidesFromEnds _ hc10) rfl (by decide) rfl rfl rfl ⟨⟨Nat.le_of_ble_eq_true rfl, Nat.le_of_ble_eq_true rfl⟩, Nat.le_of_ble_eq_true rfl, Nat.le_of_ble_eq_true rfl⟩ (Nat.le_of_ble_eq_true rfl) dX3_hashOfPlans_18 (Jk_v rfl rfl fun hok11 => ?_)
  refine J_i2l (pc := 21) dX3_hashOfPlans_21 ?_
  refine J_callS (g := mi_X3_mix) (pc := 22) [.long v6, .long v8.toInt64] [] ms_X3_mix w_567 (k_X3_mix v6 v8.toInt64 _) rfl rfl ⟨⟨Nat.le_of_ble_eq_true rfl, Nat.le_of_ble_eq_true rfl⟩, Nat.le_of_ble_eq_true rfl, Nat.le_of_ble_eq_true rfl⟩ (Nat.le_of_ble_eq_true rfl) dX3_hashOfPlans_22 (Jk_v rfl rfl fun hok12 => ?_)
  obtain ⟨v13, e14, h⟩ := bnd_e h
  refine J_topl e14 ?_
  refine J_lstore_n (pc := 25) dX3_hashOfPlans_25 rfl (Nat.le_of_ble_eq_true rfl) [1, 2, 0] rfl ?_
  refine J_LS [(0, .ref 0), (1, .long a1), (3, .long v13)] [] rfl rfl ?_
  refine J_lload_n (pc := 26) dX3_hashOfPlans_26 rfl 2 rfl ?_
  refine J_aload_n (pc := 27) dX3_hashOfPlans_27 rfl 0 rfl ?_
  refine J_LS [(0, .ref 0), (1, .long a1), (3, .long v13)] [.ref 0, .long v13] rfl rfl ?_
  refine get_0_3 (pc := 28) w_219 dX3_hashOfPlans_28 ?_
  obtain ⟨v15, M16, hc17, h⟩ := obind2_e h
  refine J_callV (g := mi_X0_stepsFromStart) (ci := 0) (pc := 31) [] [.long v13] mv_X0_stepsFromStart w_474 (k_X0_stepsFromStart _ hc17) rfl (by decide) rfl rfl rfl ⟨⟨Nat.le_of_ble_eq_true rfl, Nat.le_of_ble_eq_true rfl⟩, Nat.le_of_ble_eq_true rfl, Nat.le_of_ble_eq_true rfl⟩ (Nat.le_of_ble_eq_true rfl) dX3_hashOfPlans_31 (Jk_v rfl rfl fun hok18 => ?_)
  refine J_i2l (pc := 34) dX3_hashOfPlans_34 ?_
  refine J_callS (g := mi_X3_mix) (pc := 35) [.long v13, .long v15.toInt64] [] ms_X3_mix w_567 (k_X3_mix v13 v15.toInt64 _) rfl rfl ⟨⟨Nat.le_of_ble_eq_true rfl, Nat.le_of_ble_eq_true rfl⟩, Nat.le_of_ble_eq_true rfl, Nat.le_of_ble_eq_true rfl⟩ (Nat.le_of_ble_eq_true rfl) dX3_hashOfPlans_35 (Jk_v rfl rfl fun hok19 => ?_)
  obtain ⟨v20, e21, h⟩ := bnd_e h
  refine J_topl e21 ?_
  refine J_lstore_n (pc := 38) dX3_hashOfPlans_38 rfl (Nat.le_of_ble_eq_true rfl) [1, 2, 0] rfl ?_
  refine J_lload_n (pc := 39) dX3_hashOfPlans_39 rfl 2 rfl ?_
  refine J_LS [(0, .ref 0), (1, .long a1), (3, .long v20)] [.long v20] rfl rfl ?_
  refine J_aload_n (pc := 40) dX3_hashOfPlans_40 rfl 0 rfl ?_
  refine get_0_3 (pc := 41) w_219 dX3_hashOfPlans_41 ?_
  obtain ⟨v22, M23, hc24, h⟩ := obind2_e h
  refine J_callV (g := mi_X0_fuelByBuckets) (ci := 0) (pc := 44) [] [.long v20] mv_X0_fuelByBuckets w_482 (k_X0_fuelByBuckets _ hc24) rfl (by decide) rfl rfl rfl ⟨⟨Nat.le_of_ble_eq_true rfl, Nat.le_of_ble_eq_true rfl⟩, Nat.le_of_ble_eq_true rfl, Nat.le_of_ble_eq_true rfl⟩ (Nat.le_of_ble_eq_true rfl) dX3_hashOfPlans_44 (Jk_v rfl rfl fun hok25 => ?_)
  refine J_i2l (pc := 47) dX3_hashOfPlans_47 ?_
  refine J_callS (g := mi_X3_mix) (pc := 48) [.long v20, .long v22.toInt64] [] ms_X3_mix w_567 (k_X3_mix v20 v22.toInt64 _) rfl rfl ⟨⟨Nat.le_of_ble_eq_true rfl, Nat.le_of_ble_eq_true rfl⟩, Nat.le_of_ble_eq_true rfl, Nat.le_of_ble_eq_true rfl⟩ (Nat.le_of_ble_eq_true rfl) dX3_hashOfPlans_48 (Jk_v rfl rfl fun hok26 => ?_)
  obtain ⟨v27, e28, h⟩ := bnd_e h
  refine J_topl e28 ?_
  refine J_lstore_n (pc := 51) dX3_hashOfPlans_51 rfl (Nat.le_of_ble_eq_true rfl) [1, 2, 0] rfl ?_
  refine J_LS [(0, .ref 0), (1, .long a1), (3, .long v27)] [] rfl rfl ?_
  refine J_lload_n (pc := 52) dX3_hashOfPlans_52 rfl 2 rfl ?_
  refine J_aload_n (pc := 53) dX3_hashOfPlans_53 rfl 0 rfl ?_
  refine J_LS [(0, .ref 0), (1, .long a1), (3, .long v27)] [.ref 0, .long v27] rfl rfl ?_
  refine get_0_3 (pc := 54) w_219 dX3_hashOfPlans_54 ?_
  obtain ⟨v29, M30, hc31, h⟩ := obind2_e h
  refine J_callV (g := mi_X0_fuelByRounds) (ci := 0) (pc := 57) [] [.long v27] mv_X0_fuelByRounds w_514 (k_X0_fuelByRounds _ hc31) rfl (by decide) rfl rfl rfl ⟨⟨Nat.le_of_ble_eq_true rfl, Nat.le_of_ble_eq_true rfl⟩, Nat.le_of_ble_eq_true rfl, Nat.le_of_ble_eq_true rfl⟩ (Nat.le_of_ble_eq_true rfl) dX3_hashOfPlans_57 (Jk_v rfl rfl fun hok32 => ?_)
  refine J_i2l (pc := 60) dX3_hashOfPlans_60 ?_
  refine J_callS (g := mi_X3_mix) (pc := 61) [.long v27, .long v29.toInt64] [] ms_X3_mix w_567 (k_X3_mix v27 v29.toInt64 _) rfl rfl ⟨⟨Nat.le_of_ble_eq_true rfl, Nat.le_of_ble_eq_true rfl⟩, Nat.le_of_ble_eq_true rfl, Nat.le_of_ble_eq_true rfl⟩ (Nat.le_of_ble_eq_true rfl) dX3_hashOfPlans_61 (Jk_v rfl rfl fun hok33 => ?_)
  cases h
  exact J_lreturn dX3_hashOfPlans_64 rfl rfl rfl rfl rfl
set_option maxHeartbeats 4000000 in
set_option maxRecDepth 100000 in
theorem kL_X3_hashOfText_L16 {κ : Kx} {E : En} {Q : State → Prop} {ρ : Type} {r : ρ} (M : Wd) (K49 : Int64 → Option ρ) (hK49 : ∀ (x3 : Int64), K49 x3 = some r → J κ E mi_X3_hashOfText Q 0 0 [(3, .long x3)] M 49 []) : ∀ (m : Nat) (x3 : Int64) (x5 : Int32), F_X3_hashOfText_L16 M K49 m x3 x5 = some r → J κ E mi_X3_hashOfText Q 0 0 [(0, .ref 0), (3, .long x3), (5, .int x5)] M 16 [] := by
  intro m
  induction m with
  | zero => intro x3 x5 h; exact (nomatch (show (none : Option ρ) = some r from h))
  | succ m ih =>
    intro x3 x5 h
    unfold F_X3_hashOfText_L16 at h
    refine J_iload (pc := 16) dX3_hashOfText_16 2 rfl ?_
    refine J_aload_n (pc := 18) dX3_hashOfText_18 rfl 0 rfl ?_
    refine J_LS [(0, .ref 0), (3, .long x3), (5, .int x5)] [.ref 0, .int x5] rfl rfl ?_
    refine get_0_4 (pc := 19) w_220 dX3_hashOfText_19 ?_
    refine get_51_1 (pc := 22) w_210 dX3_hashOfText_22 ?_
    refine J_icmp_ge (pc := 25) (tgt := 49) dX3_hashOfText_25 (by decide) (fun c4 => ?_) (fun c4 => ?_)
    · replace h := ifp c4 h
      refine J_sub [1] rfl ?_
      exact hK49 _ h
    · replace h := ifn c4 h
      refine J_lload_n (pc := 28) dX3_hashOfText_28 rfl 1 rfl ?_
      refine J_aload_n (pc := 29) dX3_hashOfText_29 rfl 0 rfl ?_
      refine J_LS [(0, .ref 0), (3, .long x3), (5, .int x5)] [.ref 0, .long x3] rfl rfl ?_
      refine get_0_4 (pc := 30) w_220 dX3_hashOfText_30 ?_
      refine J_iload (pc := 33) dX3_hashOfText_33 2 rfl ?_
      obtain ⟨v5, hc6, h⟩ := obind_e h
      refine J_callV (g := mi_X2_codeAt) (ci := 2) (pc := 35) [.int x5] [.long x3] mv_X2_codeAt w_614 (k_X2_codeAt x5 _ hc6) rfl (by decide) rfl rfl rfl ⟨⟨Nat.le_of_ble_eq_true rfl, Nat.le_of_ble_eq_true rfl⟩, Nat.le_of_ble_eq_true rfl, Nat.le_of_ble_eq_true rfl⟩ (Nat.le_of_ble_eq_true rfl) dX3_hashOfText_35 (Jk_v rfl rfl fun hok7 => ?_)
      refine J_i2l (pc := 38) dX3_hashOfText_38 ?_
      refine J_callS (g := mi_X3_mix) (pc := 39) [.long x3, .long v5.toInt64] [] ms_X3_mix w_567 (k_X3_mix x3 v5.toInt64 _) rfl rfl ⟨⟨Nat.le_of_ble_eq_true rfl, Nat.le_of_ble_eq_true rfl⟩, Nat.le_of_ble_eq_true rfl, Nat.le_of_ble_eq_true rfl⟩ (Nat.le_of_ble_eq_true rfl) dX3_hashOfText_39 (Jk_v rfl rfl fun hok8 => ?_)
      obtain ⟨v9, e10, h⟩ := bnd_e h
      refine J_topl e10 ?_
      refine J_lstore_n (pc := 42) dX3_hashOfText_42 rfl (Nat.le_of_ble_eq_true rfl) [1, 0, 2] rfl ?_
      refine J_LS [(0, .ref 0), (3, .long v9), (5, .int x5)] [] rfl rfl ?_
      obtain ⟨v11, e12, h⟩ := bnd_e h
      refine J_iinc (v := v11) (pc := 43) dX3_hashOfText_43 2 rfl (by rw [e12]; rfl) (Nat.le_of_ble_eq_true rfl) [1, 2, 0] rfl ?_
      refine J_goto (pc := 46) (tgt := 16) dX3_hashOfText_46 (by decide) ?_
      exact ih _ _ h
set_option maxHeartbeats 4000000 in
set_option maxRecDepth 100000 in
theorem k_X3_hashOfText {E : En} (a1 : Int64) (M : Wd) {r : Int64} (h : F_X3_hashOfText a1 M = some r) : Con E mi_X3_hashOfText [.ref 0, .long a1] M (.inl (some (.long r))) M := by
  unfold F_X3_hashOfText at h
  refine Con.of (by decide) rfl (Nat.le_of_ble_eq_true rfl) (fun κ => ?_)
  show J κ E mi_X3_hashOfText _ 0 0 [(0, .ref 0), (1, .long a1)] M 0 []
  refine J_lload_n (pc := 0) dX3_hashOfText_0 rfl 1 rfl ?_
  refine J_aload_n (pc := 1) dX3_hashOfText_1 rfl 0 rfl ?_
  refine J_LS [(0, .ref 0), (1, .long a1)] [.ref 0, .long a1] rfl rfl ?_
  refine get_0_4 (pc := 2) w_220 dX3_hashOfText_2 ?_
  refine get_51_1 (pc := 5) w_210 dX3_hashOfText_5 ?_
  refine J_i2l (pc := 8) dX3_hashOfText_8 ?_
  refine J_callS (g := mi_X3_mix) (pc := 9) [.long a1, .long (M.1 51 1).toInt64] [] ms_X3_mix w_567 (k_X3_mix a1 (M.1 51 1).toInt64 _) rfl rfl ⟨⟨Nat.le_of_ble_eq_true rfl, Nat.le_of_ble_eq_true rfl⟩, Nat.le_of_ble_eq_true rfl, Nat.le_of_ble_eq_true rfl⟩ (Nat.le_of_ble_eq_true rfl) dX3_hashOfText_9 (Jk_v rfl rfl fun hok1 => ?_)
  obtain ⟨v2, e3, h⟩ := bnd_e h
  refine J_topl e3 ?_
  refine J_lstore_n (pc := 12) dX3_hashOfText_12 rfl (Nat.le_of_ble_eq_true rfl) [1, 2, 0] rfl ?_
  refine J_iconst (v := (0 : Int32)) (pc := 13) dX3_hashOfText_13 (by decide) ?_
  refine J_istore (pc := 14) dX3_hashOfText_14 (Nat.le_of_ble_eq_true rfl) [1, 2, 3, 0] rfl ?_
  refine J_LS [(0, .ref 0), (1, .long a1), (3, .long v2), (5, .int (0 : Int32))] [] rfl rfl ?_
  refine J_sub [0, 2, 3] rfl ?_
  refine kL_X3_hashOfText_L16 _ _ (fun v13 h => ?_) fuelN _ _ h
  refine J_lload_n (pc := 49) dX3_hashOfText_49 rfl 0 rfl ?_
  cases h
  exact J_lreturn dX3_hashOfText_50 rfl rfl rfl rfl rfl
set_option maxHeartbeats 4000000 in
set_option maxRecDepth 100000 in
theorem k_X3_digest {E : En} (M : Wd) {r : Int64} {M' : Wd} (h : F_X3_digest M = some (r, M')) : Con E mi_X3_digest [.ref 0] M (.inl (some (.long r))) M' := by
  unfold F_X3_digest at h
  refine Con.of (by decide) rfl (Nat.le_of_ble_eq_true rfl) (fun κ => ?_)
  show J κ E mi_X3_digest _ 0 0 [(0, .ref 0)] M 0 []
  refine J_aload_n (pc := 0) dX3_digest_0 rfl 0 rfl ?_
  refine J_ldc2 (pc := 1) w_562 dX3_digest_1 ?_
  obtain ⟨v1, hc2, h⟩ := obind_e h
  refine J_callV (g := mi_X3_hashOfPark) (ci := 3) (pc := 4) [.long (4507 : Int64)] [] mv_X3_hashOfPark w_563 (k_X3_hashOfPark (4507 : Int64) _ hc2) rfl (by decide) rfl rfl rfl ⟨⟨Nat.le_of_ble_eq_true rfl, Nat.le_of_ble_eq_true rfl⟩, Nat.le_of_ble_eq_true rfl, Nat.le_of_ble_eq_true rfl⟩ (Nat.le_of_ble_eq_true rfl) dX3_digest_4 (Jk_v rfl rfl fun hok3 => ?_)
  refine J_lstore_n (pc := 7) dX3_digest_7 rfl (Nat.le_of_ble_eq_true rfl) [1, 0] rfl ?_
  refine J_LS [(0, .ref 0), (1, .long v1)] [] rfl rfl ?_
  refine J_aload_n (pc := 8) dX3_digest_8 rfl 0 rfl ?_
  obtain ⟨M4, hc5, h⟩ := obind_e h
  refine J_callV (g := mi_X3_exploreNow) (ci := 3) (pc := 9) [] [] mv_X3_exploreNow w_396 (k_X3_exploreNow _ hc5) rfl (by decide) rfl rfl rfl ⟨⟨Nat.le_of_ble_eq_true rfl, Nat.le_of_ble_eq_true rfl⟩, Nat.le_of_ble_eq_true rfl, Nat.le_of_ble_eq_true rfl⟩ (Nat.le_of_ble_eq_true rfl) dX3_digest_9 (Jk_0 rfl rfl ?_)
  refine J_aload_n (pc := 12) dX3_digest_12 rfl 0 rfl ?_
  refine J_LS [(0, .ref 0), (1, .long v1)] [.ref 0] rfl rfl ?_
  refine J_lload_n (pc := 13) dX3_digest_13 rfl 1 rfl ?_
  obtain ⟨v6, M7, hc8, h⟩ := obind2_e h
  refine J_callV (g := mi_X3_hashOfPlans) (ci := 3) (pc := 14) [.long v1] [] mv_X3_hashOfPlans w_575 (k_X3_hashOfPlans v1 _ hc8) rfl (by decide) rfl rfl rfl ⟨⟨Nat.le_of_ble_eq_true rfl, Nat.le_of_ble_eq_true rfl⟩, Nat.le_of_ble_eq_true rfl, Nat.le_of_ble_eq_true rfl⟩ (Nat.le_of_ble_eq_true rfl) dX3_digest_14 (Jk_v rfl rfl fun hok9 => ?_)
  refine J_lstore_n (pc := 17) dX3_digest_17 rfl (Nat.le_of_ble_eq_true rfl) [1, 0] rfl ?_
  refine J_LS [(0, .ref 0), (1, .long v6)] [] rfl rfl ?_
  refine J_aload_n (pc := 18) dX3_digest_18 rfl 0 rfl ?_
  refine get_0_3 (pc := 19) w_219 dX3_digest_19 ?_
  refine J_iconst (v := (3 : Int32)) (pc := 22) dX3_digest_22 (by decide) ?_
  obtain ⟨M10, hc11, h⟩ := obind_e h
  refine J_callV (g := mi_X0_spreadFromStart) (ci := 0) (pc := 23) [.int (3 : Int32)] [] mv_X0_spreadFromStart w_526 (k_X0_spreadFromStart (3 : Int32) _ hc11) rfl (by decide) rfl rfl rfl ⟨⟨Nat.le_of_ble_eq_true rfl, Nat.le_of_ble_eq_true rfl⟩, Nat.le_of_ble_eq_true rfl, Nat.le_of_ble_eq_true rfl⟩ (Nat.le_of_ble_eq_true rfl) dX3_digest_23 (Jk_0 rfl rfl ?_)
  refine J_aload_n (pc := 26) dX3_digest_26 rfl 0 rfl ?_
  refine J_LS [(0, .ref 0), (1, .long v6)] [.ref 0] rfl rfl ?_
  refine J_lload_n (pc := 27) dX3_digest_27 rfl 1 rfl ?_
  obtain ⟨v12, hc13, h⟩ := obind_e h
  refine J_callV (g := mi_X3_hashOfArrangements) (ci := 3) (pc := 28) [.long v6] [] mv_X3_hashOfArrangements w_579 (k_X3_hashOfArrangements v6 _ hc13) rfl (by decide) rfl rfl rfl ⟨⟨Nat.le_of_ble_eq_true rfl, Nat.le_of_ble_eq_true rfl⟩, Nat.le_of_ble_eq_true rfl, Nat.le_of_ble_eq_true rfl⟩ (Nat.le_of_ble_eq_true rfl) dX3_digest_28 (Jk_v rfl rfl fun hok14 => ?_)
  refine J_lstore_n (pc := 31) dX3_digest_31 rfl (Nat.le_of_ble_eq_true rfl) [1, 0] rfl ?_
  refine J_LS [(0, .ref 0), (1, .long v12)] [] rfl rfl ?_
  refine J_lload_n (pc := 32) dX3_digest_32 rfl 1 rfl ?_
  refine J_aload_n (pc := 33) dX3_digest_33 rfl 0 rfl ?_
  refine J_LS [(0, .ref 0), (1, .long v12)] [.ref 0, .long v12] rfl rfl ?_
  refine get_0_5 (pc := 34) w_221 dX3_digest_34 ?_
  refine J_i2l (pc := 37) dX3_digest_37 ?_
  refine J_callS (g := mi_X3_mix) (pc := 38) [.long v12, .long (M10.1 0 5).toInt64] [] ms_X3_mix w_567 (k_X3_mix v12 (M10.1 0 5).toInt64 _) rfl rfl ⟨⟨Nat.le_of_ble_eq_true rfl, Nat.le_of_ble_eq_true rfl⟩, Nat.le_of_ble_eq_true rfl, Nat.le_of_ble_eq_true rfl⟩ (Nat.le_of_ble_eq_true rfl) dX3_digest_38 (Jk_v rfl rfl fun hok15 => ?_)
  obtain ⟨v16, e17, h⟩ := bnd_e h
  refine J_topl e17 ?_
  refine J_lstore_n (pc := 41) dX3_digest_41 rfl (Nat.le_of_ble_eq_true rfl) [1, 0] rfl ?_
  refine J_aload_n (pc := 42) dX3_digest_42 rfl 0 rfl ?_
  refine J_LS [(0, .ref 0), (1, .long v16)] [.ref 0] rfl rfl ?_
  refine J_lload_n (pc := 43) dX3_digest_43 rfl 1 rfl ?_
  obtain ⟨v18, hc19, h⟩ := obind_e h
  refine J_callV (g := mi_X3_hashOfCells) (ci := 3) (pc := 44) [.long v16] [] mv_X3_hashOfCells w_583 (k_X3_hashOfCells v16 _ hc19) rfl (by decide) rfl rfl rfl ⟨⟨Nat.le_of_ble_eq_true rfl, Nat.le_of_ble_eq_true rfl⟩, Nat.le_of_ble_eq_true rfl, Nat.le_of_ble_eq_true rfl⟩ (Nat.le_of_ble_eq_true rfl) dX3_digest_44 (Jk_v rfl rfl fun hok20 => ?_)
  refine J_lstore_n (pc := 47) dX3_digest_47 rfl (Nat.le_of_ble_eq_true rfl) [1, 0] rfl ?_
  refine J_LS [(0, .ref 0), (1, .long v18)] [] rfl rfl ?_
  refine J_aload_n (pc := 48) dX3_digest_48 rfl 0 rfl ?_
  refine J_lload_n (pc := 49) dX3_digest_49 rfl 1 rfl ?_
  refine J_LS [(0, .ref 0), (1, .long v18)] [.long v18, .ref 0] rfl rfl ?_
  obtain ⟨v21, hc22, h⟩ := obind_e h
  refine J_callV (g := mi_X3_hashOfCars) (ci := 3) (pc := 50) [.long v18] [] mv_X3_hashOfCars w_595 (k_X3_hashOfCars v18 _ hc22) rfl (by decide) rfl rfl rfl ⟨⟨Nat.le_of_ble_eq_true rfl, Nat.le_of_ble_eq_true rfl⟩, Nat.le_of_ble_eq_true rfl, Nat.le_of_ble_eq_true rfl⟩ (Nat.le_of_ble_eq_true rfl) dX3_digest_50 (Jk_v rfl rfl fun hok23 => ?_)
  refine J_lstore_n (pc := 53) dX3_digest_53 rfl (Nat.le_of_ble_eq_true rfl) [1, 0] rfl ?_
  refine J_aload_n (pc := 54) dX3_digest_54 rfl 0 rfl ?_
  refine J_LS [(0, .ref 0), (1, .long v21)] [.ref 0] rfl rfl ?_
  refine J_lload_n (pc := 55) dX3_digest_55 rfl 1 rfl ?_
  obtain ⟨v24, hc25, h⟩ := obind_e h
  refine J_callV (g := mi_X3_hashOfLog) (ci := 3) (pc := 56) [.long v21] [] mv_X3_hashOfLog w_600 (k_X3_hashOfLog v21 _ hc25) rfl (by decide) rfl rfl rfl ⟨⟨Nat.le_of_ble_eq_true rfl, Nat.le_of_ble_eq_true rfl⟩, Nat.le_of_ble_eq_true rfl, Nat.le_of_ble_eq_true rfl⟩ (Nat.le_of_ble_eq_true rfl) dX3_digest_56 (Jk_v rfl rfl fun hok26 => ?_)
  refine J_lstore_n (pc := 59) dX3_digest_59 rfl (Nat.le_of_ble_eq_true rfl) [1, 0] rfl ?_
  refine J_LS [(0, .ref 0), (1, .long v24)] [] rfl rfl ?_
  refine J_lload_n (pc := 60) dX3_digest_60 rfl 1 rfl ?_
  refine J_aload_n (pc := 61) dX3_digest_61 rfl 0 rfl ?_
  refine J_LS [(0, .ref 0), (1, .long v24)] [.ref 0, .long v24] rfl rfl ?_
  refine get_0_0 (pc := 62) w_216 dX3_digest_62 ?_
  refine get_1_8 (pc := 65) w_129 dX3_digest_65 ?_
  obtain ⟨v27, e28, h⟩ := bnd_e h
  refine J_join [(0, .ref 0)] M10 76 [.long v27, .long v24] ?_ (fun hJ => ?_)
  · refine J_callS (g := mi_X3_mix) (pc := 76) [.long v24, .long v27] [] ms_X3_mix w_567 (k_X3_mix v24 v27 _) rfl rfl ⟨⟨Nat.le_of_ble_eq_true rfl, Nat.le_of_ble_eq_true rfl⟩, Nat.le_of_ble_eq_true rfl, Nat.le_of_ble_eq_true rfl⟩ (Nat.le_of_ble_eq_true rfl) dX3_digest_76 (Jk_v rfl rfl fun hok30 => ?_)
    obtain ⟨v31, e32, h⟩ := bnd_e h
    refine J_topl e32 ?_
    refine J_lstore_n (pc := 79) dX3_digest_79 rfl (Nat.le_of_ble_eq_true rfl) [1, 0] rfl ?_
    refine J_aload_n (pc := 80) dX3_digest_80 rfl 0 rfl ?_
    refine J_LS [(0, .ref 0), (1, .long v31)] [.ref 0] rfl rfl ?_
    refine get_0_0 (pc := 81) w_216 dX3_digest_81 ?_
    refine get_1_8 (pc := 84) w_129 dX3_digest_84 ?_
    obtain ⟨v33, e34, h⟩ := bnd_e h
    refine J_join [(0, .ref 0), (1, .long v33)] M10 103 [] ?_ (fun hJ => ?_)
    · refine J_lload_n (pc := 103) dX3_digest_103 rfl 1 rfl ?_
      refine J_aload_n (pc := 104) dX3_digest_104 rfl 0 rfl ?_
      refine J_LS [(0, .ref 0), (1, .long v33)] [.ref 0, .long v33] rfl rfl ?_
      refine get_0_3 (pc := 105) w_219 dX3_digest_105 ?_
      refine get_44_9 (pc := 108) w_172 dX3_digest_108 ?_
      refine J_aload_n (pc := 111) dX3_digest_111 rfl 0 rfl ?_
      refine get_0_3 (pc := 112) w_219 dX3_digest_112 ?_
      obtain ⟨v37, hc38, h⟩ := obind_e h
      refine J_callV (g := mi_X0_allArrangements) (ci := 0) (pc := 115) [] [.int (M10.1 44 9), .long v33] mv_X0_allArrangements w_547 (k_X0_allArrangements _ hc38) rfl (by decide) rfl rfl rfl ⟨⟨Nat.le_of_ble_eq_true rfl, Nat.le_of_ble_eq_true rfl⟩, Nat.le_of_ble_eq_true rfl, Nat.le_of_ble_eq_true rfl⟩ (Nat.le_of_ble_eq_true rfl) dX3_digest_115 (Jk_v rfl rfl fun hok39 => ?_)
      obtain ⟨v40, hc41, h⟩ := obind_e h
      refine J_callS (g := mi_X3_share) (pc := 118) [.int (M10.1 44 9), .int v37] [.long v33] ms_X3_share w_555 (k_X3_share (M10.1 44 9) v37 _ hc41) rfl rfl ⟨⟨Nat.le_of_ble_eq_true rfl, Nat.le_of_ble_eq_true rfl⟩, Nat.le_of_ble_eq_true rfl, Nat.le_of_ble_eq_true rfl⟩ (Nat.le_of_ble_eq_true rfl) dX3_digest_118 (Jk_v rfl rfl fun hok42 => ?_)
      obtain ⟨v43, hc44, h⟩ := obind_e h
      refine J_callS (g := mi_X3_bitsOf) (pc := 121) [.double v40] [.long v33] ms_X3_bitsOf w_604 (k_X3_bitsOf v40 _ hc44) rfl rfl ⟨⟨Nat.le_of_ble_eq_true rfl, Nat.le_of_ble_eq_true rfl⟩, Nat.le_of_ble_eq_true rfl, Nat.le_of_ble_eq_true rfl⟩ (Nat.le_of_ble_eq_true rfl) dX3_digest_121 (Jk_v rfl rfl fun hok45 => ?_)
      refine J_callS (g := mi_X3_mix) (pc := 124) [.long v33, .long v43] [] ms_X3_mix w_567 (k_X3_mix v33 v43 _) rfl rfl ⟨⟨Nat.le_of_ble_eq_true rfl, Nat.le_of_ble_eq_true rfl⟩, Nat.le_of_ble_eq_true rfl, Nat.le_of_ble_eq_true rfl⟩ (Nat.le_of_ble_eq_true rfl) dX3_digest_124 (Jk_v rfl rfl fun hok46 => ?_)
      obtain ⟨v47, e48, h⟩ := bnd_e h
      refine J_topl e48 ?_
      refine J_lstore_n (pc := 127) dX3_digest_127 rfl (Nat.le_of_ble_eq_true rfl) [1, 0] rfl ?_
      refine J_LS [(0, .ref 0), (1, .long v47)] [] rfl rfl ?_
      refine J_aload_n (pc := 128) dX3_digest_128 rfl 0 rfl ?_
      refine J_lload_n (pc := 129) dX3_digest_129 rfl 1 rfl ?_
      refine J_LS [(0, .ref 0), (1, .long v47)] [.long v47, .ref 0] rfl rfl ?_
      obtain ⟨v49, hc50, h⟩ := obind_e h
      refine J_callV (g := mi_X3_hashOfText) (ci := 3) (pc := 130) [.long v47] [] mv_X3_hashOfText w_610 (k_X3_hashOfText v47 _ hc50) rfl (by decide) rfl rfl rfl ⟨⟨Nat.le_of_ble_eq_true rfl, Nat.le_of_ble_eq_true rfl⟩, Nat.le_of_ble_eq_true rfl, Nat.le_of_ble_eq_true rfl⟩ (Nat.le_of_ble_eq_true rfl) dX3_digest_130 (Jk_v rfl rfl fun hok51 => ?_)
      cases h
      exact J_lreturn dX3_digest_133 rfl rfl rfl rfl rfl
    · refine J_if_eq (pc := 87) (tgt := 103) dX3_digest_87 (by decide) (fun c35 => ?_) (fun c35 => ?_)
      · refine J_LS [(0, .ref 0), (1, .long v33)] [] (by rw [e34, if_pos c35]; first | done | rfl) rfl ?_
        exact hJ
      · refine J_lload_n (pc := 90) dX3_digest_90 rfl 1 rfl ?_
        refine J_aload_n (pc := 91) dX3_digest_91 rfl 0 rfl ?_
        refine J_LS [(0, .ref 0), (1, .long v31)] [.ref 0, .long v31] rfl rfl ?_
        refine get_0_0 (pc := 92) w_216 dX3_digest_92 ?_
        refine get_1_9 (pc := 95) w_131 dX3_digest_95 ?_
        refine J_i2l (pc := 98) dX3_digest_98 ?_
        refine J_callS (g := mi_X3_mix) (pc := 99) [.long v31, .long (M10.1 1 9).toInt64] [] ms_X3_mix w_567 (k_X3_mix v31 (M10.1 1 9).toInt64 _) rfl rfl ⟨⟨Nat.le_of_ble_eq_true rfl, Nat.le_of_ble_eq_true rfl⟩, Nat.le_of_ble_eq_true rfl, Nat.le_of_ble_eq_true rfl⟩ (Nat.le_of_ble_eq_true rfl) dX3_digest_99 (Jk_v rfl rfl fun hok36 => ?_)
        refine J_lstore_n (pc := 102) dX3_digest_102 rfl (Nat.le_of_ble_eq_true rfl) [1, 0] rfl ?_
        refine J_LS [(0, .ref 0), (1, .long v33)] [] (by rw [e34, if_neg c35]; first | done | rfl) rfl ?_
        exact hJ
  · refine J_if_eq (pc := 68) (tgt := 75) dX3_digest_68 (by decide) (fun c29 => ?_) (fun c29 => ?_)
    · refine J_lconst (v := (0 : Int64)) (pc := 75) dX3_digest_75 (by decide) ?_
      refine J_sub [0] rfl ?_
      refine J_topl (y := v27) (by rw [e28, if_pos c29]) ?_
      exact hJ
    · refine J_lconst (v := (1 : Int64)) (pc := 71) dX3_digest_71 (by decide) ?_
      refine J_goto (pc := 72) (tgt := 76) dX3_digest_72 (by decide) ?_
      refine J_sub [0] rfl ?_
      refine J_topl (y := v27) (by rw [e28, if_neg c29]) ?_
      exact hJ
set_option maxHeartbeats 4000000 in
set_option maxRecDepth 100000 in
theorem k_X4_thrown {E : En} (M : Wd) : Con E mi_X4_thrown [.ref 53] M (.inl (some (.int (F_X4_thrown M)))) M := by
  obtain ⟨r, h⟩ : ∃ r, F_X4_thrown M = r := ⟨_, rfl⟩
  rw [h]
  unfold F_X4_thrown at h
  refine Con.of (by decide) rfl (Nat.le_of_ble_eq_true rfl) (fun κ => ?_)
  show J κ E mi_X4_thrown _ 0 0 [(0, .ref 53)] M 0 []
  refine J_aload_n (pc := 0) dX4_thrown_0 rfl 0 rfl ?_
  refine get_53_0 (pc := 1) w_1023 dX4_thrown_1 ?_
  subst h
  exact J_ireturn dX4_thrown_4 rfl rfl rfl rfl rfl
set_option maxHeartbeats 4000000 in
set_option maxRecDepth 100000 in
theorem k_X4_refused {E : En} (a1 : Int32) (M : Wd) {r : Int32} {M' : Wd} (h : F_X4_refused a1 M = some (r, M')) : Con E mi_X4_refused [.ref 53, .int a1] M (.inl (some (.int r))) M' := by
  unfold F_X4_refused at h
  refine Con.of (by decide) rfl (Nat.le_of_ble_eq_true rfl) (fun κ => ?_)
  show J κ E mi_X4_refused _ 0 0 [(0, .ref 53), (1, .int a1)] M 0 []
  refine J_aload_n (pc := 0) dX4_refused_0 rfl 0 rfl ?_
  refine J_iload_n (pc := 1) dX4_refused_1 rfl 1 rfl ?_
  refine J_LS [(0, .ref 53), (1, .int a1)] [.int a1, .ref 53] rfl rfl ?_
  refine put_53_0 (pc := 2) w_1023 dX4_refused_2 ?_
  refine J_iload_n (pc := 5) dX4_refused_5 rfl 1 rfl ?_
  refine J_if_le (pc := 6) (tgt := 13) dX4_refused_6 (by decide) (fun c1 => ?_) (fun c1 => ?_)
  · replace h := ifp c1 h
    refine J_iconst (v := (0 : Int32)) (pc := 13) dX4_refused_13 (by decide) ?_
    cases h
    exact J_zreturn dX4_refused_14 rfl (Or.inl rfl) rfl rfl rfl rfl
  · replace h := ifn c1 h
    refine J_iconst (v := (1 : Int32)) (pc := 9) dX4_refused_9 (by decide) ?_
    refine J_goto (pc := 10) (tgt := 14) dX4_refused_10 (by decide) ?_
    cases h
    exact J_zreturn dX4_refused_14 rfl (Or.inr rfl) rfl rfl rfl rfl
set_option maxHeartbeats 4000000 in
set_option maxRecDepth 100000 in
theorem k_X4_in {E : En} (a0 : Int64) (a2 : Int64) (a4 : Int64) (M : Wd) : Con E mi_X4_in [.long a0, .long a2, .long a4] M (.inl (some (.int (F_X4_in a0 a2 a4)))) M := by
  obtain ⟨r, h⟩ : ∃ r, F_X4_in a0 a2 a4 = r := ⟨_, rfl⟩
  rw [h]
  unfold F_X4_in at h
  refine Con.of (by decide) rfl (Nat.le_of_ble_eq_true rfl) (fun κ => ?_)
  show J κ E mi_X4_in _ 0 0 [(0, .long a0), (2, .long a2), (4, .long a4)] M 0 []
  refine J_lload_n (pc := 0) dX4_in_0 rfl 0 rfl ?_
  refine J_lload_n (pc := 1) dX4_in_1 rfl 1 rfl ?_
  refine J_LS [(0, .long a0), (2, .long a2), (4, .long a4)] [.long a2, .long a0] rfl rfl ?_
  refine J_lcmp (pc := 2) dX4_in_2 ?_
  refine J_if_lt (pc := 3) (tgt := 17) dX4_in_3 (by decide) (fun c1 => ?_) (fun c1 => ?_)
  · replace h := ifp c1 h
    refine J_iconst (v := (0 : Int32)) (pc := 17) dX4_in_17 (by decide) ?_
    subst h
    exact J_zreturn dX4_in_18 rfl (Or.inl rfl) rfl rfl rfl rfl
  · replace h := ifn c1 h
    refine J_lload_n (pc := 6) dX4_in_6 rfl 0 rfl ?_
    refine J_lload (pc := 7) dX4_in_7 2 rfl ?_
    refine J_LS [(0, .long a0), (2, .long a2), (4, .long a4)] [.long a4, .long a0] rfl rfl ?_
    refine J_lcmp (pc := 9) dX4_in_9 ?_
    refine J_if_gt (pc := 10) (tgt := 17) dX4_in_10 (by decide) (fun c2 => ?_) (fun c2 => ?_)
    · replace h := ifp c2 h
      refine J_iconst (v := (0 : Int32)) (pc := 17) dX4_in_17 (by decide) ?_
      subst h
      exact J_zreturn dX4_in_18 rfl (Or.inl rfl) rfl rfl rfl rfl
    · replace h := ifn c2 h
      refine J_iconst (v := (1 : Int32)) (pc := 13) dX4_in_13 (by decide) ?_
      refine J_goto (pc := 14) (tgt := 18) dX4_in_14 (by decide) ?_
      subst h
      exact J_zreturn dX4_in_18 rfl (Or.inr rfl) rfl rfl rfl rfl
set_option maxHeartbeats 4000000 in
set_option maxRecDepth 100000 in
theorem kL_X4_copyState_55_56_L3 {κ : Kx} {E : En} {Q : State → Prop} {ρ : Type} {r : ρ} (a1 : Int32) (a3 : Int32) (K28 : Wd → Option ρ) (hK28 : ∀ (M : Wd), K28 M = some r → J κ E mi_X4_copyState Q 0 0 [] M 28 []) : ∀ (m : Nat) (x4 : Int32) (M : Wd), F_X4_copyState_55_56_L3 a1 a3 K28 m x4 M = some r → J κ E mi_X4_copyState Q 0 0 [(0, .ref 55), (1, .int a1), (2, .ref 56), (3, .int a3), (4, .int x4)] M 3 [] := by
  intro m
  induction m with
  | zero => intro x4 M h; exact (nomatch (show (none : Option ρ) = some r from h))
  | succ m ih =>
    intro x4 M h
    unfold F_X4_copyState_55_56_L3 at h
    refine J_iload (pc := 3) dX4_copyState_3 4 rfl ?_
    refine J_bipush (v := (82 : Int32)) (pc := 5) dX4_copyState_5 (by decide) ?_
    refine J_icmp_ge (pc := 7) (tgt := 28) dX4_copyState_7 (by decide) (fun c1 => ?_) (fun c1 => ?_)
    · replace h := ifp c1 h
      refine J_sub [] rfl ?_
      exact hK28 _ h
    · replace h := ifn c1 h
      refine J_aload_n (pc := 10) dX4_copyState_10 rfl 2 rfl ?_
      refine J_LS [(0, .ref 55), (1, .int a1), (2, .ref 56), (3, .int a3), (4, .int x4)] [.ref 56] rfl rfl ?_
      refine J_iload_n (pc := 11) dX4_copyState_11 rfl 3 rfl ?_
      refine J_iload (pc := 12) dX4_copyState_12 4 rfl ?_
      refine J_LS [(0, .ref 55), (1, .int a1), (2, .ref 56), (3, .int a3), (4, .int x4)] [.int x4, .int a3, .ref 56] rfl rfl ?_
      refine J_iadd (pc := 14) dX4_copyState_14 ?_
      refine J_aload_n (pc := 15) dX4_copyState_15 rfl 0 rfl ?_
      refine J_iload_n (pc := 16) dX4_copyState_16 rfl 1 rfl ?_
      refine J_LS [(0, .ref 55), (1, .int a1), (2, .ref 56), (3, .int a3), (4, .int x4)] [.int a1, .ref 55, .int (a3 + x4), .ref 56] rfl rfl ?_
      refine J_iload (pc := 17) dX4_copyState_17 4 rfl ?_
      refine J_iadd (pc := 19) dX4_copyState_19 ?_
      obtain ⟨v2, e3, hk4, h⟩ := ldi_e h
      refine J_iald (c := 55) (N := 82) (pc := 20) ja_55 (Nat.le_of_ble_eq_true rfl) hk4 dX4_copyState_20 ?_
      refine J_topi e3 ?_
      obtain ⟨hk5, h⟩ := inb_e h
      refine J_iast (c := 56) (N := 410) (pc := 21) (fun _ => ja_56) (Nat.le_of_ble_eq_true rfl) hk5 dX4_copyState_21 ?_
      obtain ⟨v6, e7, h⟩ := bnd_e h
      refine J_iinc (v := v6) (pc := 22) dX4_copyState_22 4 rfl (by rw [e7]; rfl) (Nat.le_of_ble_eq_true rfl) [1, 2, 3, 4, 0] rfl ?_
      refine J_goto (pc := 25) (tgt := 3) dX4_copyState_25 (by decide) ?_
      exact ih _ _ h
set_option maxHeartbeats 4000000 in
set_option maxRecDepth 100000 in
theorem k_X4_copyState_55_56 {E : En} (a1 : Int32) (a3 : Int32) (M : Wd) {M' : Wd} (h : F_X4_copyState_55_56 a1 a3 M = some M') : Con E mi_X4_copyState [.ref 55, .int a1, .ref 56, .int a3] M (.inl none) M' := by
  unfold F_X4_copyState_55_56 at h
  refine Con.of (by decide) rfl (Nat.le_of_ble_eq_true rfl) (fun κ => ?_)
  show J κ E mi_X4_copyState _ 0 0 [(0, .ref 55), (1, .int a1), (2, .ref 56), (3, .int a3)] M 0 []
  refine J_iconst (v := (0 : Int32)) (pc := 0) dX4_copyState_0 (by decide) ?_
  refine J_istore (pc := 1) dX4_copyState_1 (Nat.le_of_ble_eq_true rfl) [1, 2, 3, 4, 0] rfl ?_
  refine kL_X4_copyState_55_56_L3 _ _ _ (fun M8 h => ?_) fuelN _ _ h
  cases h
  exact J_return dX4_copyState_28 rfl rfl rfl rfl rfl
set_option maxHeartbeats 4000000 in
set_option maxRecDepth 100000 in
theorem kL_X4_copyState_56_55_L3 {κ : Kx} {E : En} {Q : State → Prop} {ρ : Type} {r : ρ} (a1 : Int32) (a3 : Int32) (K28 : Wd → Option ρ) (hK28 : ∀ (M : Wd), K28 M = some r → J κ E mi_X4_copyState Q 0 0 [] M 28 []) : ∀ (m : Nat) (x4 : Int32) (M : Wd), F_X4_copyState_56_55_L3 a1 a3 K28 m x4 M = some r → J κ E mi_X4_copyState Q 0 0 [(0, .ref 56), (1, .int a1), (2, .ref 55), (3, .int a3), (4, .int x4)] M 3 [] := by
  intro m
  induction m with
  | zero => intro x4 M h; exact (nomatch (show (none : Option ρ) = some r from h))
  | succ m ih =>
    intro x4 M h
    unfold F_X4_copyState_56_55_L3 at h
    refine J_iload (pc := 3) dX4_copyState_3 4 rfl ?_
    refine J_bipush (v := (82 : Int32)) (pc := 5) dX4_copyState_5 (by decide) ?_
    refine J_icmp_ge (pc := 7) (tgt := 28) dX4_copyState_7 (by decide) (fun c1 => ?_) (fun c1 => ?_)
    · replace h := ifp c1 h
      refine J_sub [] rfl ?_
      exact hK28 _ h
    · replace h := ifn c1 h
      refine J_aload_n (pc := 10) dX4_copyState_10 rfl 2 rfl ?_
      refine J_LS [(0, .ref 56), (1, .int a1), (2, .ref 55), (3, .int a3), (4, .int x4)] [.ref 55] rfl rfl ?_
      refine J_iload_n (pc := 11) dX4_copyState_11 rfl 3 rfl ?_
      refine J_iload (pc := 12) dX4_copyState_12 4 rfl ?_
      refine J_LS [(0, .ref 56), (1, .int a1), (2, .ref 55), (3, .int a3), (4, .int x4)] [.int x4, .int a3, .ref 55] rfl rfl ?_
      refine J_iadd (pc := 14) dX4_copyState_14 ?_
      refine J_aload_n (pc := 15) dX4_copyState_15 rfl 0 rfl ?_
      refine J_iload_n (pc := 16) dX4_copyState_16 rfl 1 rfl ?_
      refine J_LS [(0, .ref 56), (1, .int a1), (2, .ref 55), (3, .int a3), (4, .int x4)] [.int a1, .ref 56, .int (a3 + x4), .ref 55] rfl rfl ?_
      refine J_iload (pc := 17) dX4_copyState_17 4 rfl ?_
      refine J_iadd (pc := 19) dX4_copyState_19 ?_
      obtain ⟨v2, e3, hk4, h⟩ := ldi_e h
      refine J_iald (c := 56) (N := 410) (pc := 20) ja_56 (Nat.le_of_ble_eq_true rfl) hk4 dX4_copyState_20 ?_
      refine J_topi e3 ?_
      obtain ⟨hk5, h⟩ := inb_e h
      refine J_iast (c := 55) (N := 82) (pc := 21) (fun _ => ja_55) (Nat.le_of_ble_eq_true rfl) hk5 dX4_copyState_21 ?_
      obtain ⟨v6, e7, h⟩ := bnd_e h
      refine J_iinc (v := v6) (pc := 22) dX4_copyState_22 4 rfl (by rw [e7]; rfl) (Nat.le_of_ble_eq_true rfl) [1, 2, 3, 4, 0] rfl ?_
      refine J_goto (pc := 25) (tgt := 3) dX4_copyState_25 (by decide) ?_
      exact ih _ _ h
set_option maxHeartbeats 4000000 in
set_option maxRecDepth 100000 in
theorem k_X4_copyState_56_55 {E : En} (a1 : Int32) (a3 : Int32) (M : Wd) {M' : Wd} (h : F_X4_copyState_56_55 a1 a3 M = some M') : Con E mi_X4_copyState [.ref 56, .int a1, .ref 55, .int a3] M (.inl none) M' := by
  unfold F_X4_copyState_56_55 at h
  refine Con.of (by decide) rfl (Nat.le_of_ble_eq_true rfl) (fun κ => ?_)
  show J κ E mi_X4_copyState _ 0 0 [(0, .ref 56), (1, .int a1), (2, .ref 55), (3, .int a3)] M 0 []
  refine J_iconst (v := (0 : Int32)) (pc := 0) dX4_copyState_0 (by decide) ?_
  refine J_istore (pc := 1) dX4_copyState_1 (Nat.le_of_ble_eq_true rfl) [1, 2, 3, 4, 0] rfl ?_
  refine kL_X4_copyState_56_55_L3 _ _ _ (fun M8 h => ?_) fuelN _ _ h
  cases h
  exact J_return dX4_copyState_28 rfl rfl rfl rfl rfl
set_option maxHeartbeats 4000000 in
set_option maxRecDepth 100000 in
theorem kL_X4_copyState_55_57_L3 {κ : Kx} {E : En} {Q : State → Prop} {ρ : Type} {r : ρ} (a1 : Int32) (a3 : Int32) (K28 : Wd → Option ρ) (hK28 : ∀ (M : Wd), K28 M = some r → J κ E mi_X4_copyState Q 0 0 [] M 28 []) : ∀ (m : Nat) (x4 : Int32) (M : Wd), F_X4_copyState_55_57_L3 a1 a3 K28 m x4 M = some r → J κ E mi_X4_copyState Q 0 0 [(0, .ref 55), (1, .int a1), (2, .ref 57), (3, .int a3), (4, .int x4)] M 3 [] := by
  intro m
  induction m with
  | zero => intro x4 M h; exact (nomatch (show (none : Option ρ) = some r from h))
  | succ m ih =>
    intro x4 M h
    unfold F_X4_copyState_55_57_L3 at h
    refine J_iload (pc := 3) dX4_copyState_3 4 rfl ?_
    refine J_bipush (v := (82 : Int32)) (pc := 5) dX4_copyState_5 (by decide) ?_
    refine J_icmp_ge (pc := 7) (tgt := 28) dX4_copyState_7 (by decide) (fun c1 => ?_) (fun c1 => ?_)
    · replace h := ifp c1 h
      refine J_sub [] rfl ?_
      exact hK28 _ h
    · replace h := ifn c1 h
      refine J_aload_n (pc := 10) dX4_copyState_10 rfl 2 rfl ?_
      refine J_LS [(0, .ref 55), (1, .int a1), (2, .ref 57), (3, .int a3), (4, .int x4)] [.ref 57] rfl rfl ?_
      refine J_iload_n (pc := 11) dX4_copyState_11 rfl 3 rfl ?_
      refine J_iload (pc := 12) dX4_copyState_12 4 rfl ?_
      refine J_LS [(0, .ref 55), (1, .int a1), (2, .ref 57), (3, .int a3), (4, .int x4)] [.int x4, .int a3, .ref 57] rfl rfl ?_
      refine J_iadd (pc := 14) dX4_copyState_14 ?_
      refine J_aload_n (pc := 15) dX4_copyState_15 rfl 0 rfl ?_
      refine J_iload_n (pc := 16) dX4_copyState_16 rfl 1 rfl ?_
      refine J_LS [(0, .ref 55), (1, .int a1), (2, .ref 57), (3, .int a3), (4, .int x4)] [.int a1, .ref 55, .int (a3 + x4), .ref 57] rfl rfl ?_
      refine J_iload (pc := 17) dX4_copyState_17 4 rfl ?_
      refine J_iadd (pc := 19) dX4_copyState_19 ?_
      obtain ⟨v2, e3, hk4, h⟩ := ldi_e h
      refine J_iald (c := 55) (N := 82) (pc := 20) ja_55 (Nat.le_of_ble_eq_true rfl) hk4 dX4_copyState_20 ?_
      refine J_topi e3 ?_
      obtain ⟨hk5, h⟩ := inb_e h
      refine J_iast (c := 57) (N := 82) (pc := 21) (fun _ => ja_57) (Nat.le_of_ble_eq_true rfl) hk5 dX4_copyState_21 ?_
      obtain ⟨v6, e7, h⟩ := bnd_e h
      refine J_iinc (v := v6) (pc := 22) dX4_copyState_22 4 rfl (by rw [e7]; rfl) (Nat.le_of_ble_eq_true rfl) [1, 2, 3, 4, 0] rfl ?_
      refine J_goto (pc := 25) (tgt := 3) dX4_copyState_25 (by decide) ?_
      exact ih _ _ h
set_option maxHeartbeats 4000000 in
set_option maxRecDepth 100000 in
theorem k_X4_copyState_55_57 {E : En} (a1 : Int32) (a3 : Int32) (M : Wd) {M' : Wd} (h : F_X4_copyState_55_57 a1 a3 M = some M') : Con E mi_X4_copyState [.ref 55, .int a1, .ref 57, .int a3] M (.inl none) M' := by
  unfold F_X4_copyState_55_57 at h
  refine Con.of (by decide) rfl (Nat.le_of_ble_eq_true rfl) (fun κ => ?_)
  show J κ E mi_X4_copyState _ 0 0 [(0, .ref 55), (1, .int a1), (2, .ref 57), (3, .int a3)] M 0 []
  refine J_iconst (v := (0 : Int32)) (pc := 0) dX4_copyState_0 (by decide) ?_
  refine J_istore (pc := 1) dX4_copyState_1 (Nat.le_of_ble_eq_true rfl) [1, 2, 3, 4, 0] rfl ?_
  refine kL_X4_copyState_55_57_L3 _ _ _ (fun M8 h => ?_) fuelN _ _ h
  cases h
  exact J_return dX4_copyState_28 rfl rfl rfl rfl rfl
set_option maxHeartbeats 4000000 in
set_option maxRecDepth 100000 in
theorem kL_X4_copyState_57_55_L3 {κ : Kx} {E : En} {Q : State → Prop} {ρ : Type} {r : ρ} (a1 : Int32) (a3 : Int32) (K28 : Wd → Option ρ) (hK28 : ∀ (M : Wd), K28 M = some r → J κ E mi_X4_copyState Q 0 0 [] M 28 []) : ∀ (m : Nat) (x4 : Int32) (M : Wd), F_X4_copyState_57_55_L3 a1 a3 K28 m x4 M = some r → J κ E mi_X4_copyState Q 0 0 [(0, .ref 57), (1, .int a1), (2, .ref 55), (3, .int a3), (4, .int x4)] M 3 [] := by
  intro m
  induction m with
  | zero => intro x4 M h; exact (nomatch (show (none : Option ρ) = some r from h))
  | succ m ih =>
    intro x4 M h
    unfold F_X4_copyState_57_55_L3 at h
    refine J_iload (pc := 3) dX4_copyState_3 4 rfl ?_
    refine J_bipush (v := (82 : Int32)) (pc := 5) dX4_copyState_5 (by decide) ?_
    refine J_icmp_ge (pc := 7) (tgt := 28) dX4_copyState_7 (by decide) (fun c1 => ?_) (fun c1 => ?_)
    · replace h := ifp c1 h
      refine J_sub [] rfl ?_
      exact hK28 _ h
    · replace h := ifn c1 h
      refine J_aload_n (pc := 10) dX4_copyState_10 rfl 2 rfl ?_
      refine J_LS [(0, .ref 57), (1, .int a1), (2, .ref 55), (3, .int a3), (4, .int x4)] [.ref 55] rfl rfl ?_
      refine J_iload_n (pc := 11) dX4_copyState_11 rfl 3 rfl ?_
      refine J_iload (pc := 12) dX4_copyState_12 4 rfl ?_
      refine J_LS [(0, .ref 57), (1, .int a1), (2, .ref 55), (3, .int a3), (4, .int x4)] [.int x4, .int a3, .ref 55] rfl rfl ?_
      refine J_iadd (pc := 14) dX4_copyState_14 ?_
      refine J_aload_n (pc := 15) dX4_copyState_15 rfl 0 rfl ?_
      refine J_iload_n (pc := 16) dX4_copyState_16 rfl 1 rfl ?_
      refine J_LS [(0, .ref 57), (1, .int a1), (2, .ref 55), (3, .int a3), (4, .int x4)] [.int a1, .ref 57, .int (a3 + x4), .ref 55] rfl rfl ?_
      refine J_iload (pc := 17) dX4_copyState_17 4 rfl ?_
      refine J_iadd (pc := 19) dX4_copyState_19 ?_
      obtain ⟨v2, e3, hk4, h⟩ := ldi_e h
      refine J_iald (c := 57) (N := 82) (pc := 20) ja_57 (Nat.le_of_ble_eq_true rfl) hk4 dX4_copyState_20 ?_
      refine J_topi e3 ?_
      obtain ⟨hk5, h⟩ := inb_e h
      refine J_iast (c := 55) (N := 82) (pc := 21) (fun _ => ja_55) (Nat.le_of_ble_eq_true rfl) hk5 dX4_copyState_21 ?_
      obtain ⟨v6, e7, h⟩ := bnd_e h
      refine J_iinc (v := v6) (pc := 22) dX4_copyState_22 4 rfl (by rw [e7]; rfl) (Nat.le_of_ble_eq_true rfl) [1, 2, 3, 4, 0] rfl ?_
      refine J_goto (pc := 25) (tgt := 3) dX4_copyState_25 (by decide) ?_
      exact ih _ _ h
set_option maxHeartbeats 4000000 in
set_option maxRecDepth 100000 in
theorem k_X4_copyState_57_55 {E : En} (a1 : Int32) (a3 : Int32) (M : Wd) {M' : Wd} (h : F_X4_copyState_57_55 a1 a3 M = some M') : Con E mi_X4_copyState [.ref 57, .int a1, .ref 55, .int a3] M (.inl none) M' := by
  unfold F_X4_copyState_57_55 at h
  refine Con.of (by decide) rfl (Nat.le_of_ble_eq_true rfl) (fun κ => ?_)
  show J κ E mi_X4_copyState _ 0 0 [(0, .ref 57), (1, .int a1), (2, .ref 55), (3, .int a3)] M 0 []
  refine J_iconst (v := (0 : Int32)) (pc := 0) dX4_copyState_0 (by decide) ?_
  refine J_istore (pc := 1) dX4_copyState_1 (Nat.le_of_ble_eq_true rfl) [1, 2, 3, 4, 0] rfl ?_
  refine kL_X4_copyState_57_55_L3 _ _ _ (fun M8 h => ?_) fuelN _ _ h
  cases h
  exact J_return dX4_copyState_28 rfl rfl rfl rfl rfl
set_option maxHeartbeats 4000000 in
set_option maxRecDepth 100000 in
theorem kL_X4_bits_L4 {κ : Kx} {E : En} {Q : State → Prop} {ρ : Type} {r : ρ} (M : Wd) (K20 : Int32 → Option ρ) (hK20 : ∀ (x1 : Int32), K20 x1 = some r → J κ E mi_X4_bits Q 0 0 [(1, .int x1)] M 20 []) : ∀ (m : Nat) (x1 : Int32) (x2 : Int32), F_X4_bits_L4 K20 m x1 x2 = some r → J κ E mi_X4_bits Q 0 0 [(1, .int x1), (2, .int x2)] M 4 [] := by
  intro m
  induction m with
  | zero => intro x1 x2 h; exact (nomatch (show (none : Option ρ) = some r from h))
  | succ m ih =>
    intro x1 x2 h
    unfold F_X4_bits_L4 at h
    refine J_iload_n (pc := 4) dX4_bits_4 rfl 1 rfl ?_
    refine J_if_eq (pc := 5) (tgt := 20) dX4_bits_5 (by decide) (fun c1 => ?_) (fun c1 => ?_)
    · replace h := ifp c1 h
      refine J_sub [0] rfl ?_
      exact hK20 _ h
    · replace h := ifn c1 h
      obtain ⟨v2, e3, h⟩ := bnd_e h
      refine J_iinc (v := v2) (pc := 8) dX4_bits_8 0 rfl (by rw [e3]; rfl) (Nat.le_of_ble_eq_true rfl) [0, 1] rfl ?_
      refine J_iload_n (pc := 11) dX4_bits_11 rfl 1 rfl ?_
      refine J_LS [(1, .int v2), (2, .int x2)] [.int x2] rfl rfl ?_
      refine J_iload_n (pc := 12) dX4_bits_12 rfl 1 rfl ?_
      refine J_iconst (v := (1 : Int32)) (pc := 13) dX4_bits_13 (by decide) ?_
      refine J_isub (pc := 14) dX4_bits_14 ?_
      refine J_iand (pc := 15) dX4_bits_15 ?_
      obtain ⟨v4, e5, h⟩ := bnd_e h
      refine J_topi e5 ?_
      refine J_istore_n (pc := 16) dX4_bits_16 rfl (Nat.le_of_ble_eq_true rfl) [1, 0] rfl ?_
      refine J_LS [(1, .int v2), (2, .int v4)] [] rfl rfl ?_
      refine J_goto (pc := 17) (tgt := 4) dX4_bits_17 (by decide) ?_
      exact ih _ _ h
set_option maxHeartbeats 4000000 in
set_option maxRecDepth 100000 in
theorem k_X4_bits {E : En} (a0 : Int32) (M : Wd) {r : Int32} (h : F_X4_bits a0 = some r) : Con E mi_X4_bits [.int a0] M (.inl (some (.int r))) M := by
  unfold F_X4_bits at h
  refine Con.of (by decide) rfl (Nat.le_of_ble_eq_true rfl) (fun κ => ?_)
  show J κ E mi_X4_bits _ 0 0 [(0, .int a0)] M 0 []
  refine J_iconst (v := (0 : Int32)) (pc := 0) dX4_bits_0 (by decide) ?_
  refine J_istore_n (pc := 1) dX4_bits_1 rfl (Nat.le_of_ble_eq_true rfl) [1, 0] rfl ?_
  refine J_iload_n (pc := 2) dX4_bits_2 rfl 0 rfl ?_
  refine J_LS [(0, .int a0), (1, .int (0 : Int32))] [.int a0] rfl rfl ?_
  refine J_istore_n (pc := 3) dX4_bits_3 rfl (Nat.le_of_ble_eq_true rfl) [1, 2, 0] rfl ?_
  refine J_sub [1, 2] rfl ?_
  refine kL_X4_bits_L4 _ _ (fun v6 h => ?_) fuelN _ _ h
  refine J_iload_n (pc := 20) dX4_bits_20 rfl 0 rfl ?_
  refine J_LS [(1, .int v6)] [.int v6] rfl rfl ?_
  cases h
  exact J_ireturn dX4_bits_21 rfl rfl rfl rfl rfl
set_option maxHeartbeats 4000000 in
set_option maxRecDepth 100000 in
theorem kL_X4_cells_L5 {κ : Kx} {E : En} {Q : State → Prop} {ρ : Type} {r : ρ} (a0 : Int32) (a1 : Int32) (a2 : Int32) (M : Wd) (K46 : Int32 → Option ρ) (hK46 : ∀ (x3 : Int32), K46 x3 = some r → J κ E mi_X4_cells Q 0 0 [(3, .int x3)] M 46 []) : ∀ (m : Nat) (x3 : Int32) (x4 : Int32), F_X4_cells_L5 a0 a1 a2 K46 m x3 x4 = some r → J κ E mi_X4_cells Q 0 0 [(0, .int a0), (1, .int a1), (2, .int a2), (3, .int x3), (4, .int x4)] M 5 [] := by
  intro m
  induction m with
  | zero => intro x3 x4 h; exact (nomatch (show (none : Option ρ) = some r from h))
  | succ m ih =>
    intro x3 x4 h
    unfold F_X4_cells_L5 at h
    refine J_iload (pc := 5) dX4_cells_5 4 rfl ?_
    refine J_iload_n (pc := 7) dX4_cells_7 rfl 1 rfl ?_
    refine J_LS [(0, .int a0), (1, .int a1), (2, .int a2), (3, .int x3), (4, .int x4)] [.int a1, .int x4] rfl rfl ?_
    refine J_iload_n (pc := 8) dX4_cells_8 rfl 2 rfl ?_
    refine J_iadd (pc := 9) dX4_cells_9 ?_
    refine J_icmp_ge (pc := 10) (tgt := 46) dX4_cells_10 (by decide) (fun c1 => ?_) (fun c1 => ?_)
    · replace h := ifp c1 h
      refine J_sub [3] rfl ?_
      exact hK46 _ h
    · replace h := ifn c1 h
      refine J_iload_n (pc := 13) dX4_cells_13 rfl 3 rfl ?_
      refine J_LS [(0, .int a0), (1, .int a1), (2, .int a2), (3, .int x3), (4, .int x4)] [.int x3] rfl rfl ?_
      refine J_iconst (v := (1 : Int32)) (pc := 14) dX4_cells_14 (by decide) ?_
      refine J_iload_n (pc := 15) dX4_cells_15 rfl 0 rfl ?_
      refine J_iconst (v := (5 : Int32)) (pc := 16) dX4_cells_16 (by decide) ?_
      obtain ⟨v2, e3, h⟩ := bnd_e h
      refine J_join [(0, .int a0), (1, .int a1), (2, .int a2), (4, .int x4)] M 37 [.int v2, .int (1 : Int32), .int x3] ?_ (fun hJ => ?_)
      · refine J_ishl (pc := 37) dX4_cells_37 ?_
        refine J_ior (pc := 38) dX4_cells_38 ?_
        obtain ⟨v5, e6, h⟩ := bnd_e h
        refine J_topi e6 ?_
        refine J_istore_n (pc := 39) dX4_cells_39 rfl (Nat.le_of_ble_eq_true rfl) [1, 2, 3, 0, 4] rfl ?_
        obtain ⟨v7, e8, h⟩ := bnd_e h
        refine J_iinc (v := v7) (pc := 40) dX4_cells_40 4 rfl (by rw [e8]; rfl) (Nat.le_of_ble_eq_true rfl) [1, 2, 3, 4, 0] rfl ?_
        refine J_goto (pc := 43) (tgt := 5) dX4_cells_43 (by decide) ?_
        exact ih _ _ h
      · refine J_icmp_ge (pc := 17) (tgt := 29) dX4_cells_17 (by decide) (fun c4 => ?_) (fun c4 => ?_)
        · refine J_iconst (v := (5 : Int32)) (pc := 29) dX4_cells_29 (by decide) ?_
          refine J_iload (pc := 30) dX4_cells_30 4 rfl ?_
          refine J_LS [(0, .int a0), (1, .int a1), (2, .int a2), (3, .int x3), (4, .int x4)] [.int x4, .int (5 : Int32), .int (1 : Int32), .int x3] rfl rfl ?_
          refine J_imul (pc := 32) dX4_cells_32 ?_
          refine J_iload_n (pc := 33) dX4_cells_33 rfl 0 rfl ?_
          refine J_iadd (pc := 34) dX4_cells_34 ?_
          refine J_iconst (v := (5 : Int32)) (pc := 35) dX4_cells_35 (by decide) ?_
          refine J_isub (pc := 36) dX4_cells_36 ?_
          refine J_sub [0, 1, 2, 4] rfl ?_
          refine J_topi (y := v2) (by rw [e3, if_pos c4]) ?_
          exact hJ
        · refine J_iconst (v := (5 : Int32)) (pc := 20) dX4_cells_20 (by decide) ?_
          refine J_iload_n (pc := 21) dX4_cells_21 rfl 0 rfl ?_
          refine J_LS [(0, .int a0), (1, .int a1), (2, .int a2), (3, .int x3), (4, .int x4)] [.int a0, .int (5 : Int32), .int (1 : Int32), .int x3] rfl rfl ?_
          refine J_imul (pc := 22) dX4_cells_22 ?_
          refine J_iload (pc := 23) dX4_cells_23 4 rfl ?_
          refine J_iadd (pc := 25) dX4_cells_25 ?_
          refine J_goto (pc := 26) (tgt := 37) dX4_cells_26 (by decide) ?_
          refine J_sub [0, 1, 2, 4] rfl ?_
          refine J_topi (y := v2) (by rw [e3, if_neg c4]) ?_
          exact hJ
set_option maxHeartbeats 4000000 in
set_option maxRecDepth 100000 in
theorem k_X4_cells {E : En} (a0 : Int32) (a1 : Int32) (a2 : Int32) (M : Wd) {r : Int32} (h : F_X4_cells a0 a1 a2 = some r) : Con E mi_X4_cells [.int a0, .int a1, .int a2] M (.inl (some (.int r))) M := by
  unfold F_X4_cells at h
  refine Con.of (by decide) rfl (Nat.le_of_ble_eq_true rfl) (fun κ => ?_)
  show J κ E mi_X4_cells _ 0 0 [(0, .int a0), (1, .int a1), (2, .int a2)] M 0 []
  refine J_iconst (v := (0 : Int32)) (pc := 0) dX4_cells_0 (by decide) ?_
  refine J_istore_n (pc := 1) dX4_cells_1 rfl (Nat.le_of_ble_eq_true rfl) [1, 2, 3, 0] rfl ?_
  refine J_iload_n (pc := 2) dX4_cells_2 rfl 1 rfl ?_
  refine J_LS [(0, .int a0), (1, .int a1), (2, .int a2), (3, .int (0 : Int32))] [.int a1] rfl rfl ?_
  refine J_istore (pc := 3) dX4_cells_3 (Nat.le_of_ble_eq_true rfl) [1, 2, 3, 4, 0] rfl ?_
  refine kL_X4_cells_L5 _ _ _ _ _ (fun v9 h => ?_) fuelN _ _ h
  refine J_iload_n (pc := 46) dX4_cells_46 rfl 0 rfl ?_
  refine J_LS [(3, .int v9)] [.int v9] rfl rfl ?_
  cases h
  exact J_ireturn dX4_cells_47 rfl rfl rfl rfl rfl
set_option maxHeartbeats 4000000 in
set_option maxRecDepth 100000 in
theorem k_X4_cellsOf {E : En} (a1 : Int32) (M : Wd) {r : Int32} (h : F_X4_cellsOf a1 M = some r) : Con E mi_X4_cellsOf [.ref 53, .int a1] M (.inl (some (.int r))) M := by
  unfold F_X4_cellsOf at h
  refine Con.of (by decide) rfl (Nat.le_of_ble_eq_true rfl) (fun κ => ?_)
  show J κ E mi_X4_cellsOf _ 0 0 [(0, .ref 53), (1, .int a1)] M 0 []
  refine J_aload_n (pc := 0) dX4_cellsOf_0 rfl 0 rfl ?_
  refine get_53_3 (pc := 1) w_1026 dX4_cellsOf_1 ?_
  refine J_iconst (v := (1 : Int32)) (pc := 4) dX4_cellsOf_4 (by decide) ?_
  refine J_iload_n (pc := 5) dX4_cellsOf_5 rfl 1 rfl ?_
  refine J_LS [(0, .ref 53), (1, .int a1)] [.int a1, .int (1 : Int32), .ref 55] rfl rfl ?_
  refine J_iadd (pc := 6) dX4_cellsOf_6 ?_
  obtain ⟨v1, e2, hk3, h⟩ := ldi_e h
  refine J_iald (c := 55) (N := 82) (pc := 7) ja_55 (Nat.le_of_ble_eq_true rfl) hk3 dX4_cellsOf_7 ?_
  refine J_topi e2 ?_
  refine J_aload_n (pc := 8) dX4_cellsOf_8 rfl 0 rfl ?_
  refine get_53_3 (pc := 9) w_1026 dX4_cellsOf_9 ?_
  refine J_bipush (v := (7 : Int32)) (pc := 12) dX4_cellsOf_12 (by decide) ?_
  refine J_iload_n (pc := 14) dX4_cellsOf_14 rfl 1 rfl ?_
  refine J_LS [(0, .ref 53), (1, .int a1)] [.int a1, .int (7 : Int32), .ref 55, .int v1] rfl rfl ?_
  refine J_iadd (pc := 15) dX4_cellsOf_15 ?_
  obtain ⟨v4, e5, hk6, h⟩ := ldi_e h
  refine J_iald (c := 55) (N := 82) (pc := 16) ja_55 (Nat.le_of_ble_eq_true rfl) hk6 dX4_cellsOf_16 ?_
  refine J_topi e5 ?_
  refine J_aload_n (pc := 17) dX4_cellsOf_17 rfl 0 rfl ?_
  refine get_53_3 (pc := 18) w_1026 dX4_cellsOf_18 ?_
  refine J_bipush (v := (13 : Int32)) (pc := 21) dX4_cellsOf_21 (by decide) ?_
  refine J_iload_n (pc := 23) dX4_cellsOf_23 rfl 1 rfl ?_
  refine J_LS [(0, .ref 53), (1, .int a1)] [.int a1, .int (13 : Int32), .ref 55, .int v4, .int v1] rfl rfl ?_
  refine J_iadd (pc := 24) dX4_cellsOf_24 ?_
  obtain ⟨v7, e8, hk9, h⟩ := ldi_e h
  refine J_iald (c := 55) (N := 82) (pc := 25) ja_55 (Nat.le_of_ble_eq_true rfl) hk9 dX4_cellsOf_25 ?_
  refine J_topi e8 ?_
  obtain ⟨v10, hc11, h⟩ := obind_e h
  refine J_callS (g := mi_X4_cells) (pc := 26) [.int v1, .int v4, .int v7] [] ms_X4_cells w_1109 (k_X4_cells v1 v4 v7 _ hc11) rfl rfl ⟨⟨Nat.le_of_ble_eq_true rfl, Nat.le_of_ble_eq_true rfl⟩, Nat.le_of_ble_eq_true rfl, Nat.le_of_ble_eq_true rfl⟩ (Nat.le_of_ble_eq_true rfl) dX4_cellsOf_26 (Jk_v rfl rfl fun hok12 => ?_)
  cases h
  exact J_ireturn dX4_cellsOf_29 rfl rfl rfl rfl rfl
set_option maxHeartbeats 4000000 in
set_option maxRecDepth 100000 in
theorem kL_X4_occupied_L10 {κ : Kx} {E : En} {Q : State → Prop} {ρ : Type} {r : ρ} (M : Wd) (K34 : Int32 → Option ρ) (hK34 : ∀ (x1 : Int32), K34 x1 = some r → J κ E mi_X4_occupied Q 0 0 [(1, .int x1)] M 34 []) : ∀ (m : Nat) (x1 : Int32) (x2 : Int32), F_X4_occupied_L10 M K34 m x1 x2 = some r → J κ E mi_X4_occupied Q 0 0 [(0, .ref 53), (1, .int x1), (2, .int x2)] M 10 [] := by
  intro m
  induction m with
  | zero => intro x1 x2 h; exact (nomatch (show (none : Option ρ) = some r from h))
  | succ m ih =>
    intro x1 x2 h
    unfold F_X4_occupied_L10 at h
    refine J_iload_n (pc := 10) dX4_occupied_10 rfl 2 rfl ?_
    refine J_aload_n (pc := 11) dX4_occupied_11 rfl 0 rfl ?_
    refine J_LS [(0, .ref 53), (1, .int x1), (2, .int x2)] [.ref 53, .int x2] rfl rfl ?_
    refine get_53_3 (pc := 12) w_1026 dX4_occupied_12 ?_
    refine J_iconst (v := (0 : Int32)) (pc := 15) dX4_occupied_15 (by decide) ?_
    refine J_iald (c := 55) (N := 82) (pc := 16) ja_55 (Nat.le_of_ble_eq_true rfl) (vpc rfl) dX4_occupied_16 ?_
    refine J_topi (x := M.1 55 (Int32.toNatClampNeg 0)) (y := (M.1 55 0)) (Eq.symm (a := M.1 55 (Int32.toNatClampNeg 0)) (show M.1 55 0 = (M.1 55 0) from rfl)) ?_
    refine J_icmp_ge (pc := 17) (tgt := 34) dX4_occupied_17 (by decide) (fun c3 => ?_) (fun c3 => ?_)
    · replace h := ifp c3 h
      refine J_sub [1] rfl ?_
      exact hK34 _ h
    · replace h := ifn c3 h
      refine J_iload_n (pc := 20) dX4_occupied_20 rfl 1 rfl ?_
      refine J_aload_n (pc := 21) dX4_occupied_21 rfl 0 rfl ?_
      refine J_LS [(0, .ref 53), (1, .int x1), (2, .int x2)] [.ref 53, .int x1] rfl rfl ?_
      refine J_iload_n (pc := 22) dX4_occupied_22 rfl 2 rfl ?_
      obtain ⟨v4, hc5, h⟩ := obind_e h
      refine J_callV (g := mi_X4_cellsOf) (ci := 4) (pc := 23) [.int x2] [.int x1] mv_X4_cellsOf w_1116 (k_X4_cellsOf x2 _ hc5) rfl (by decide) rfl rfl rfl ⟨⟨Nat.le_of_ble_eq_true rfl, Nat.le_of_ble_eq_true rfl⟩, Nat.le_of_ble_eq_true rfl, Nat.le_of_ble_eq_true rfl⟩ (Nat.le_of_ble_eq_true rfl) dX4_occupied_23 (Jk_v rfl rfl fun hok6 => ?_)
      refine J_ior (pc := 26) dX4_occupied_26 ?_
      obtain ⟨v7, e8, h⟩ := bnd_e h
      refine J_topi e8 ?_
      refine J_istore_n (pc := 27) dX4_occupied_27 rfl (Nat.le_of_ble_eq_true rfl) [1, 0, 2] rfl ?_
      refine J_LS [(0, .ref 53), (1, .int v7), (2, .int x2)] [] rfl rfl ?_
      obtain ⟨v9, e10, h⟩ := bnd_e h
      refine J_iinc (v := v9) (pc := 28) dX4_occupied_28 2 rfl (by rw [e10]; rfl) (Nat.le_of_ble_eq_true rfl) [1, 2, 0] rfl ?_
      refine J_goto (pc := 31) (tgt := 10) dX4_occupied_31 (by decide) ?_
      exact ih _ _ h
set_option maxHeartbeats 4000000 in
set_option maxRecDepth 100000 in
theorem k_X4_occupied {E : En} (M : Wd) {r : Int32} (h : F_X4_occupied M = some r) : Con E mi_X4_occupied [.ref 53] M (.inl (some (.int r))) M := by
  unfold F_X4_occupied at h
  refine Con.of (by decide) rfl (Nat.le_of_ble_eq_true rfl) (fun κ => ?_)
  show J κ E mi_X4_occupied _ 0 0 [(0, .ref 53)] M 0 []
  refine J_aload_n (pc := 0) dX4_occupied_0 rfl 0 rfl ?_
  refine get_53_3 (pc := 1) w_1026 dX4_occupied_1 ?_
  refine J_bipush (v := (19 : Int32)) (pc := 4) dX4_occupied_4 (by decide) ?_
  refine J_iald (c := 55) (N := 82) (pc := 6) ja_55 (Nat.le_of_ble_eq_true rfl) (vpc rfl) dX4_occupied_6 ?_
  refine J_topi (x := M.1 55 (Int32.toNatClampNeg 19)) (y := (M.1 55 19)) (Eq.symm (a := M.1 55 (Int32.toNatClampNeg 19)) (show M.1 55 19 = (M.1 55 19) from rfl)) ?_
  obtain ⟨v1, e2, h⟩ := bnd_e h
  refine J_topi e2 ?_
  refine J_istore_n (pc := 7) dX4_occupied_7 rfl (Nat.le_of_ble_eq_true rfl) [1, 0] rfl ?_
  refine J_LS [(0, .ref 53), (1, .int v1)] [] rfl rfl ?_
  refine J_iconst (v := (0 : Int32)) (pc := 8) dX4_occupied_8 (by decide) ?_
  refine J_istore_n (pc := 9) dX4_occupied_9 rfl (Nat.le_of_ble_eq_true rfl) [1, 2, 0] rfl ?_
  refine kL_X4_occupied_L10 _ _ (fun v11 h => ?_) fuelN _ _ h
  refine J_iload_n (pc := 34) dX4_occupied_34 rfl 0 rfl ?_
  refine J_LS [(1, .int v11)] [.int v11] rfl rfl ?_
  cases h
  exact J_ireturn dX4_occupied_35 rfl rfl rfl rfl rfl
set_option maxHeartbeats 4000000 in
set_option maxRecDepth 100000 in
theorem k_X4_isCar {E : En} (a1 : Int32) (M : Wd) : Con E mi_X4_isCar [.ref 53, .int a1] M (.inl (some (.int (F_X4_isCar a1 M)))) M := by
  obtain ⟨r, h⟩ : ∃ r, F_X4_isCar a1 M = r := ⟨_, rfl⟩
  rw [h]
  unfold F_X4_isCar at h
  refine Con.of (by decide) rfl (Nat.le_of_ble_eq_true rfl) (fun κ => ?_)
  show J κ E mi_X4_isCar _ 0 0 [(0, .ref 53), (1, .int a1)] M 0 []
  refine J_iload_n (pc := 0) dX4_isCar_0 rfl 1 rfl ?_
  refine J_i2l (pc := 1) dX4_isCar_1 ?_
  refine J_lconst (v := (0 : Int64)) (pc := 2) dX4_isCar_2 (by decide) ?_
  refine J_aload_n (pc := 3) dX4_isCar_3 rfl 0 rfl ?_
  refine J_LS [(0, .ref 53), (1, .int a1)] [.ref 53, .long (0 : Int64), .long a1.toInt64] rfl rfl ?_
  refine get_53_3 (pc := 4) w_1026 dX4_isCar_4 ?_
  refine J_iconst (v := (0 : Int32)) (pc := 7) dX4_isCar_7 (by decide) ?_
  refine J_iald (c := 55) (N := 82) (pc := 8) ja_55 (Nat.le_of_ble_eq_true rfl) (vpc rfl) dX4_isCar_8 ?_
  refine J_topi (x := M.1 55 (Int32.toNatClampNeg 0)) (y := (M.1 55 0)) (Eq.symm (a := M.1 55 (Int32.toNatClampNeg 0)) (show M.1 55 0 = (M.1 55 0) from rfl)) ?_
  refine J_iconst (v := (1 : Int32)) (pc := 9) dX4_isCar_9 (by decide) ?_
  refine J_isub (pc := 10) dX4_isCar_10 ?_
  refine J_i2l (pc := 11) dX4_isCar_11 ?_
  refine J_callS (g := mi_X4_in) (pc := 12) [.long a1.toInt64, .long (0 : Int64), .long ((M.1 55 0) - (1 : Int32)).toInt64] [] ms_X4_in w_1104 (k_X4_in a1.toInt64 (0 : Int64) ((M.1 55 0) - (1 : Int32)).toInt64 _) rfl rfl ⟨⟨Nat.le_of_ble_eq_true rfl, Nat.le_of_ble_eq_true rfl⟩, Nat.le_of_ble_eq_true rfl, Nat.le_of_ble_eq_true rfl⟩ (Nat.le_of_ble_eq_true rfl) dX4_isCar_12 (Jk_v rfl rfl fun hok1 => ?_)
  subst h
  exact J_zreturn dX4_isCar_15 rfl (okB_b hok1) rfl rfl rfl rfl
set_option maxHeartbeats 4000000 in
set_option maxRecDepth 100000 in
theorem k_X4_isCell {E : En} (a0 : Int32) (M : Wd) : Con E mi_X4_isCell [.int a0] M (.inl (some (.int (F_X4_isCell a0)))) M := by
  obtain ⟨r, h⟩ : ∃ r, F_X4_isCell a0 = r := ⟨_, rfl⟩
  rw [h]
  unfold F_X4_isCell at h
  refine Con.of (by decide) rfl (Nat.le_of_ble_eq_true rfl) (fun κ => ?_)
  show J κ E mi_X4_isCell _ 0 0 [(0, .int a0)] M 0 []
  refine J_iload_n (pc := 0) dX4_isCell_0 rfl 0 rfl ?_
  refine J_i2l (pc := 1) dX4_isCell_1 ?_
  refine J_lconst (v := (0 : Int64)) (pc := 2) dX4_isCell_2 (by decide) ?_
  refine J_ldc2 (pc := 3) w_1146 dX4_isCell_3 ?_
  refine J_callS (g := mi_X4_in) (pc := 6) [.long a0.toInt64, .long (0 : Int64), .long (24 : Int64)] [] ms_X4_in w_1104 (k_X4_in a0.toInt64 (0 : Int64) (24 : Int64) _) rfl rfl ⟨⟨Nat.le_of_ble_eq_true rfl, Nat.le_of_ble_eq_true rfl⟩, Nat.le_of_ble_eq_true rfl, Nat.le_of_ble_eq_true rfl⟩ (Nat.le_of_ble_eq_true rfl) dX4_isCell_6 (Jk_v rfl rfl fun hok1 => ?_)
  subst h
  exact J_zreturn dX4_isCell_9 rfl (okB_b hok1) rfl rfl rfl rfl
set_option maxHeartbeats 4000000 in
set_option maxRecDepth 100000 in
theorem kL_X4_space_L19 {κ : Kx} {E : En} {Q : State → Prop} {ρ : Type} {r : ρ} (a1 : Int32) (a2 : Int32) (a3 : Int32) (M : Wd) (K122 : Int32 → Option ρ) (hK122 : ∀ (x4 : Int32), K122 x4 = some r → J κ E mi_X4_space Q 0 0 [(4, .int x4)] M 122 []) : ∀ (m : Nat) (x4 : Int32) (x5 : Int32), F_X4_space_L19 a1 a2 a3 M K122 m x4 x5 = some r → J κ E mi_X4_space Q 0 0 [(0, .ref 53), (1, .int a1), (2, .int a2), (3, .int a3), (4, .int x4), (5, .int x5)] M 19 [] := by
  intro m
  induction m with
  | zero => intro x4 x5 h; exact (nomatch (show (none : Option ρ) = some r from h))
  | succ m ih =>
    intro x4 x5 h
    unfold F_X4_space_L19 at h
    refine J_iload (pc := 19) dX4_space_19 5 rfl ?_
    refine J_if_eq (pc := 21) (tgt := 122) dX4_space_21 (by decide) (fun c9 => ?_) (fun c9 => ?_)
    · replace h := ifp c9 h
      refine J_sub [4] rfl ?_
      exact hK122 _ h
    · replace h := ifn c9 h
      refine J_aload_n (pc := 24) dX4_space_24 rfl 0 rfl ?_
      refine J_LS [(0, .ref 53), (1, .int a1), (2, .int a2), (3, .int a3), (4, .int x4), (5, .int x5)] [.ref 53] rfl rfl ?_
      refine get_53_3 (pc := 25) w_1026 dX4_space_25 ?_
      refine J_bipush (v := (7 : Int32)) (pc := 28) dX4_space_28 (by decide) ?_
      refine J_iload_n (pc := 30) dX4_space_30 rfl 1 rfl ?_
      refine J_iadd (pc := 31) dX4_space_31 ?_
      obtain ⟨v10, e11, hk12, h⟩ := ldi_e h
      refine J_iald (c := 55) (N := 82) (pc := 32) ja_55 (Nat.le_of_ble_eq_true rfl) hk12 dX4_space_32 ?_
      refine J_topi e11 ?_
      refine J_iload_n (pc := 33) dX4_space_33 rfl 2 rfl ?_
      refine J_LS [(0, .ref 53), (1, .int a1), (2, .int a2), (3, .int a3), (4, .int x4), (5, .int x5)] [.int a2, .int v10] rfl rfl ?_
      refine J_iload (pc := 34) dX4_space_34 4 rfl ?_
      refine J_iconst (v := (1 : Int32)) (pc := 36) dX4_space_36 (by decide) ?_
      refine J_iadd (pc := 37) dX4_space_37 ?_
      refine J_imul (pc := 38) dX4_space_38 ?_
      refine J_iadd (pc := 39) dX4_space_39 ?_
      obtain ⟨v13, e14, h⟩ := bnd_e h
      refine J_topi e14 ?_
      refine J_istore (pc := 40) dX4_space_40 (Nat.le_of_ble_eq_true rfl) [1, 2, 3, 4, 5, 6, 0] rfl ?_
      refine J_LS [(0, .ref 53), (1, .int a1), (2, .int a2), (3, .int a3), (4, .int x4), (5, .int x5), (6, .int v13)] [] rfl rfl ?_
      refine J_iload (pc := 42) dX4_space_42 4 rfl ?_
      refine J_iconst (v := (3 : Int32)) (pc := 44) dX4_space_44 (by decide) ?_
      obtain ⟨v15, hv32, h⟩ := obind_e h
      refine J_join [(0, .ref 53), (1, .int a1), (2, .int a2), (3, .int a3), (4, .int x4)] M 102 [.int v15] ?_ (fun hJ => ?_)
      · refine J_istore (pc := 102) dX4_space_102 (Nat.le_of_ble_eq_true rfl) [1, 2, 3, 4, 5, 0] rfl ?_
        refine J_iload (pc := 104) dX4_space_104 4 rfl ?_
        refine J_LS [(0, .ref 53), (1, .int a1), (2, .int a2), (3, .int a3), (4, .int x4), (5, .int v15)] [.int x4] rfl rfl ?_
        refine J_iload (pc := 106) dX4_space_106 5 rfl ?_
        obtain ⟨v33, e34, h⟩ := bnd_e h
        have hb36 : isB v33 := by rw [e34]; repeat (first | exact Or.inl rfl | exact Or.inr rfl | assumption | exact okB_b (by assumption) | apply isB_ite)
        refine J_join [(0, .ref 53), (1, .int a1), (2, .int a2), (3, .int a3), (5, .int v15)] M 116 [.int v33, .int x4] ?_ (fun hJ => ?_)
        · refine J_iadd (pc := 116) dX4_space_116 ?_
          obtain ⟨v37, e38, h⟩ := bnd_e h
          refine J_topi e38 ?_
          refine J_istore (pc := 117) dX4_space_117 (Nat.le_of_ble_eq_true rfl) [1, 2, 3, 4, 0, 5] rfl ?_
          refine J_goto (pc := 119) (tgt := 19) dX4_space_119 (by decide) ?_
          exact ih _ _ h
        · refine J_if_eq (pc := 108) (tgt := 115) dX4_space_108 (by decide) (fun c35 => ?_) (fun c35 => ?_)
          · refine J_iconst (v := (0 : Int32)) (pc := 115) dX4_space_115 (by decide) ?_
            refine J_sub [0, 1, 2, 3, 5] rfl ?_
            refine J_topi (y := v33) (by rw [e34, if_pos c35]) ?_
            exact hJ
          · refine J_iconst (v := (1 : Int32)) (pc := 111) dX4_space_111 (by decide) ?_
            refine J_goto (pc := 112) (tgt := 116) dX4_space_112 (by decide) ?_
            refine J_sub [0, 1, 2, 3, 5] rfl ?_
            refine J_topi (y := v33) (by rw [e34, if_neg c35]) ?_
            exact hJ
      · replace h := hv32
        refine J_icmp_ge (pc := 45) (tgt := 101) dX4_space_45 (by decide) (fun c16 => ?_) (fun c16 => ?_)
        · replace h := ifp c16 h
          refine J_iconst (v := (0 : Int32)) (pc := 101) dX4_space_101 (by decide) ?_
          cases h
          refine J_sub [0, 1, 2, 3, 4] rfl ?_
          exact hJ
        · replace h := ifn c16 h
          refine J_iload (pc := 48) dX4_space_48 6 rfl ?_
          refine J_LS [(0, .ref 53), (1, .int a1), (2, .int a2), (3, .int a3), (4, .int x4), (5, .int x5), (6, .int v13)] [.int v13] rfl rfl ?_
          refine J_i2l (pc := 50) dX4_space_50 ?_
          refine J_lconst (v := (0 : Int64)) (pc := 51) dX4_space_51 (by decide) ?_
          refine J_iconst (v := (5 : Int32)) (pc := 52) dX4_space_52 (by decide) ?_
          refine J_aload_n (pc := 53) dX4_space_53 rfl 0 rfl ?_
          refine get_53_3 (pc := 54) w_1026 dX4_space_54 ?_
          refine J_bipush (v := (13 : Int32)) (pc := 57) dX4_space_57 (by decide) ?_
          refine J_iload_n (pc := 59) dX4_space_59 rfl 1 rfl ?_
          refine J_LS [(0, .ref 53), (1, .int a1), (2, .int a2), (3, .int a3), (4, .int x4), (5, .int x5), (6, .int v13)] [.int a1, .int (13 : Int32), .ref 55, .int (5 : Int32), .long (0 : Int64), .long v13.toInt64] rfl rfl ?_
          refine J_iadd (pc := 60) dX4_space_60 ?_
          obtain ⟨v17, e18, hk19, h⟩ := ldi_e h
          refine J_iald (c := 55) (N := 82) (pc := 61) ja_55 (Nat.le_of_ble_eq_true rfl) hk19 dX4_space_61 ?_
          refine J_topi e18 ?_
          refine J_isub (pc := 62) dX4_space_62 ?_
          refine J_i2l (pc := 63) dX4_space_63 ?_
          refine J_callS (g := mi_X4_in) (pc := 64) [.long v13.toInt64, .long (0 : Int64), .long ((5 : Int32) - v17).toInt64] [] ms_X4_in w_1104 (k_X4_in v13.toInt64 (0 : Int64) ((5 : Int32) - v17).toInt64 _) rfl rfl ⟨⟨Nat.le_of_ble_eq_true rfl, Nat.le_of_ble_eq_true rfl⟩, Nat.le_of_ble_eq_true rfl, Nat.le_of_ble_eq_true rfl⟩ (Nat.le_of_ble_eq_true rfl) dX4_space_64 (Jk_v rfl rfl fun hok20 => ?_)
          refine J_if_eq (pc := 67) (tgt := 101) dX4_space_67 (by decide) (fun c21 => ?_) (fun c21 => ?_)
          · replace h := ifp c21 h
            refine J_iconst (v := (0 : Int32)) (pc := 101) dX4_space_101 (by decide) ?_
            cases h
            refine J_sub [0, 1, 2, 3, 4] rfl ?_
            exact hJ
          · replace h := ifn c21 h
            refine J_aload_n (pc := 70) dX4_space_70 rfl 0 rfl ?_
            refine get_53_3 (pc := 71) w_1026 dX4_space_71 ?_
            refine J_iconst (v := (1 : Int32)) (pc := 74) dX4_space_74 (by decide) ?_
            refine J_iload_n (pc := 75) dX4_space_75 rfl 1 rfl ?_
            refine J_LS [(0, .ref 53), (1, .int a1), (2, .int a2), (3, .int a3), (4, .int x4), (5, .int x5), (6, .int v13)] [.int a1, .int (1 : Int32), .ref 55] rfl rfl ?_
            refine J_iadd (pc := 76) dX4_space_76 ?_
            obtain ⟨v22, e23, hk24, h⟩ := ldi_e h
            refine J_iald (c := 55) (N := 82) (pc := 77) ja_55 (Nat.le_of_ble_eq_true rfl) hk24 dX4_space_77 ?_
            refine J_topi e23 ?_
            refine J_iload (pc := 78) dX4_space_78 6 rfl ?_
            refine J_aload_n (pc := 80) dX4_space_80 rfl 0 rfl ?_
            refine J_LS [(0, .ref 53), (1, .int a1), (2, .int a2), (3, .int a3), (4, .int x4), (5, .int x5), (6, .int v13)] [.ref 53, .int v13, .int v22] rfl rfl ?_
            refine get_53_3 (pc := 81) w_1026 dX4_space_81 ?_
            refine J_bipush (v := (13 : Int32)) (pc := 84) dX4_space_84 (by decide) ?_
            refine J_iload_n (pc := 86) dX4_space_86 rfl 1 rfl ?_
            refine J_iadd (pc := 87) dX4_space_87 ?_
            obtain ⟨v25, e26, hk27, h⟩ := ldi_e h
            refine J_iald (c := 55) (N := 82) (pc := 88) ja_55 (Nat.le_of_ble_eq_true rfl) hk27 dX4_space_88 ?_
            refine J_topi e26 ?_
            obtain ⟨v28, hc29, h⟩ := obind_e h
            refine J_callS (g := mi_X4_cells) (pc := 89) [.int v22, .int v13, .int v25] [] ms_X4_cells w_1109 (k_X4_cells v22 v13 v25 _ hc29) rfl rfl ⟨⟨Nat.le_of_ble_eq_true rfl, Nat.le_of_ble_eq_true rfl⟩, Nat.le_of_ble_eq_true rfl, Nat.le_of_ble_eq_true rfl⟩ (Nat.le_of_ble_eq_true rfl) dX4_space_89 (Jk_v rfl rfl fun hok30 => ?_)
            refine J_iload_n (pc := 92) dX4_space_92 rfl 3 rfl ?_
            refine J_LS [(0, .ref 53), (1, .int a1), (2, .int a2), (3, .int a3), (4, .int x4), (5, .int x5), (6, .int v13)] [.int a3, .int v28] rfl rfl ?_
            refine J_iand (pc := 93) dX4_space_93 ?_
            refine J_if_ne (pc := 94) (tgt := 101) dX4_space_94 (by decide) (fun c31 => ?_) (fun c31 => ?_)
            · replace h := ifn c31 h
              refine J_iconst (v := (0 : Int32)) (pc := 101) dX4_space_101 (by decide) ?_
              cases h
              refine J_sub [0, 1, 2, 3, 4] rfl ?_
              exact hJ
            · replace h := ifp c31 h
              refine J_iconst (v := (1 : Int32)) (pc := 97) dX4_space_97 (by decide) ?_
              refine J_goto (pc := 98) (tgt := 102) dX4_space_98 (by decide) ?_
              cases h
              refine J_sub [0, 1, 2, 3, 4] rfl ?_
              exact hJ
set_option maxHeartbeats 4000000 in
set_option maxRecDepth 100000 in
theorem k_X4_space {E : En} (a1 : Int32) (a2 : Int32) (M : Wd) {r : Int32} (h : F_X4_space a1 a2 M = some r) : Con E mi_X4_space [.ref 53, .int a1, .int a2] M (.inl (some (.int r))) M := by
  unfold F_X4_space at h
  refine Con.of (by decide) rfl (Nat.le_of_ble_eq_true rfl) (fun κ => ?_)
  show J κ E mi_X4_space _ 0 0 [(0, .ref 53), (1, .int a1), (2, .int a2)] M 0 []
  refine J_aload_n (pc := 0) dX4_space_0 rfl 0 rfl ?_
  obtain ⟨v1, hc2, h⟩ := obind_e h
  refine J_callV (g := mi_X4_occupied) (ci := 4) (pc := 1) [] [] mv_X4_occupied w_1112 (k_X4_occupied _ hc2) rfl (by decide) rfl rfl rfl ⟨⟨Nat.le_of_ble_eq_true rfl, Nat.le_of_ble_eq_true rfl⟩, Nat.le_of_ble_eq_true rfl, Nat.le_of_ble_eq_true rfl⟩ (Nat.le_of_ble_eq_true rfl) dX4_space_1 (Jk_v rfl rfl fun hok3 => ?_)
  refine J_aload_n (pc := 4) dX4_space_4 rfl 0 rfl ?_
  refine J_LS [(0, .ref 53), (1, .int a1), (2, .int a2)] [.ref 53, .int v1] rfl rfl ?_
  refine J_iload_n (pc := 5) dX4_space_5 rfl 1 rfl ?_
  obtain ⟨v4, hc5, h⟩ := obind_e h
  refine J_callV (g := mi_X4_cellsOf) (ci := 4) (pc := 6) [.int a1] [.int v1] mv_X4_cellsOf w_1116 (k_X4_cellsOf a1 _ hc5) rfl (by decide) rfl rfl rfl ⟨⟨Nat.le_of_ble_eq_true rfl, Nat.le_of_ble_eq_true rfl⟩, Nat.le_of_ble_eq_true rfl, Nat.le_of_ble_eq_true rfl⟩ (Nat.le_of_ble_eq_true rfl) dX4_space_6 (Jk_v rfl rfl fun hok6 => ?_)
  refine J_iconst (v := (-1 : Int32)) (pc := 9) dX4_space_9 (by decide) ?_
  refine J_ixor (pc := 10) dX4_space_10 ?_
  refine J_iand (pc := 11) dX4_space_11 ?_
  obtain ⟨v7, e8, h⟩ := bnd_e h
  refine J_topi e8 ?_
  refine J_istore_n (pc := 12) dX4_space_12 rfl (Nat.le_of_ble_eq_true rfl) [1, 2, 3, 0] rfl ?_
  refine J_LS [(0, .ref 53), (1, .int a1), (2, .int a2), (3, .int v7)] [] rfl rfl ?_
  refine J_iconst (v := (0 : Int32)) (pc := 13) dX4_space_13 (by decide) ?_
  refine J_istore (pc := 14) dX4_space_14 (Nat.le_of_ble_eq_true rfl) [1, 2, 3, 4, 0] rfl ?_
  refine J_iconst (v := (1 : Int32)) (pc := 16) dX4_space_16 (by decide) ?_
  refine J_istore (pc := 17) dX4_space_17 (Nat.le_of_ble_eq_true rfl) [1, 2, 3, 4, 5, 0] rfl ?_
  refine J_LS [(0, .ref 53), (1, .int a1), (2, .int a2), (3, .int v7), (4, .int (0 : Int32)), (5, .int (1 : Int32))] [] rfl rfl ?_
  refine kL_X4_space_L19 _ _ _ _ _ (fun v39 h => ?_) fuelN _ _ h
  refine J_iload (pc := 122) dX4_space_122 0 rfl ?_
  cases h
  exact J_ireturn dX4_space_124 rfl rfl rfl rfl rfl

/-! ===== walks of the methods, 8 ===== -/
set_option maxHeartbeats 4000000 in
set_option maxRecDepth 100000 in
theorem k_X3_fewestWithoutLast {E : En} (M : Wd) {r : Int32 ⊕ Nat} {M' : Wd} (h : F_X3_fewestWithoutLast M = some (r, M')) : Con E mi_X3_fewestWithoutLast [.ref 0] M (ocI r) M' := by
  unfold F_X3_fewestWithoutLast at h
  refine Con.of (by decide) rfl (Nat.le_of_ble_eq_true rfl) (fun κ => ?_)
  show J κ E mi_X3_fewestWithoutLast _ 0 0 [(0, .ref 0)] M 0 []
  refine J_aload_n (pc := 0) dX3_fewestWithoutLast_0 rfl 0 rfl ?_
  refine get_0_0 (pc := 1) w_154 dX3_fewestWithoutLast_1 ?_
  refine get_1_5 (pc := 4) w_61 dX3_fewestWithoutLast_4 ?_
  refine J_iconst (v := (2 : Int32)) (pc := 7) dX3_fewestWithoutLast_7 (by decide) ?_
  refine J_icmp_ge (pc := 8) (tgt := 22) dX3_fewestWithoutLast_8 (by decide) (fun c1 => ?_) (fun c1 => ?_)
  · replace h := ifp c1 h
    refine J_aload_n (pc := 22) dX3_fewestWithoutLast_22 rfl 0 rfl ?_
    refine get_0_3 (pc := 23) w_157 dX3_fewestWithoutLast_23 ?_
    refine J_aload_n (pc := 26) dX3_fewestWithoutLast_26 rfl 0 rfl ?_
    refine get_0_0 (pc := 27) w_154 dX3_fewestWithoutLast_27 ?_
    refine J_aload_n (pc := 30) dX3_fewestWithoutLast_30 rfl 0 rfl ?_
    refine get_0_0 (pc := 31) w_154 dX3_fewestWithoutLast_31 ?_
    refine get_1_5 (pc := 34) w_61 dX3_fewestWithoutLast_34 ?_
    refine J_iconst (v := (1 : Int32)) (pc := 37) dX3_fewestWithoutLast_37 (by decide) ?_
    refine J_isub (pc := 38) dX3_fewestWithoutLast_38 ?_
    refine J_aload_n (pc := 39) dX3_fewestWithoutLast_39 rfl 0 rfl ?_
    refine get_0_0 (pc := 40) w_154 dX3_fewestWithoutLast_40 ?_
    refine get_1_6 (pc := 43) w_63 dX3_fewestWithoutLast_43 ?_
    obtain ⟨M2, hc3, h⟩ := obind_e h
    refine J_callV (g := mi_X0_load) (ci := 0) (pc := 46) [.ref 1, .int ((M.1 1 5) - (1 : Int32)), .int (M.1 1 6)] [] mv_X0_load w_254 (k_X0_load ((M.1 1 5) - (1 : Int32)) (M.1 1 6) _ hc3) rfl (by decide) rfl rfl rfl ⟨⟨Nat.le_of_ble_eq_true rfl, Nat.le_of_ble_eq_true rfl⟩, Nat.le_of_ble_eq_true rfl, Nat.le_of_ble_eq_true rfl⟩ (Nat.le_of_ble_eq_true rfl) dX3_fewestWithoutLast_46 (Jk_0 rfl rfl ?_)
    refine J_aload_n (pc := 49) dX3_fewestWithoutLast_49 rfl 0 rfl ?_
    refine get_0_3 (pc := 50) w_157 dX3_fewestWithoutLast_50 ?_
    obtain ⟨v4, M5, hc6, h⟩ := obind2_e h
    refine J_callV (g := mi_X0_slidesFromStart) (ci := 0) (pc := 53) [] [] mv_X0_slidesFromStart w_276 (k_X0_slidesFromStart  _ hc6) rfl (by decide) rfl rfl rfl ⟨⟨Nat.le_of_ble_eq_true rfl, Nat.le_of_ble_eq_true rfl⟩, Nat.le_of_ble_eq_true rfl, Nat.le_of_ble_eq_true rfl⟩ (Nat.le_of_ble_eq_true rfl) dX3_fewestWithoutLast_53 (Jk_v rfl rfl fun hok7 => ?_)
    cases h
    refine J_wide (k' := 1) (n' := 6) (Nat.le_of_ble_eq_true rfl) (Nat.le_of_ble_eq_true rfl) ?_
    exact J_ireturn dX3_fewestWithoutLast_56 rfl rfl rfl rfl rfl
  · replace h := ifn c1 h
    cases h
    exact J_throwSW (pc := 11) (text := "there are fewer than 2 cars") rfl rfl rfl (by decide +kernel) w_535 w_29 (by decide) ats_RX3_66 dX3_fewestWithoutLast_11 dX3_fewestWithoutLast_14 dX3_fewestWithoutLast_15 dX3_fewestWithoutLast_18 dX3_fewestWithoutLast_21 ⟨⟨Nat.le_of_ble_eq_true rfl, Nat.le_of_ble_eq_true rfl⟩, Nat.le_of_ble_eq_true rfl, Nat.le_of_ble_eq_true rfl⟩
set_option maxHeartbeats 4000000 in
set_option maxRecDepth 100000 in
theorem k_X3_fewestWithWall {E : En} (a1 : Int32) (M : Wd) {r : Int32 ⊕ Nat} {M' : Wd} (h : F_X3_fewestWithWall a1 M = some (r, M')) : Con E mi_X3_fewestWithWall [.ref 0, .int a1] M (ocI r) M' := by
  unfold F_X3_fewestWithWall at h
  refine Con.of (by decide) rfl (Nat.le_of_ble_eq_true rfl) (fun κ => ?_)
  show J κ E mi_X3_fewestWithWall _ 0 0 [(0, .ref 0), (1, .int a1)] M 0 []
  refine J_iload_n (pc := 0) dX3_fewestWithWall_0 rfl 1 rfl ?_
  refine J_callS (g := mi_X3_isCell) (pc := 1) [.int a1] [] ms_X3_isCell w_797 (k_X3_isCell  a1 _) rfl rfl ⟨⟨Nat.le_of_ble_eq_true rfl, Nat.le_of_ble_eq_true rfl⟩, Nat.le_of_ble_eq_true rfl, Nat.le_of_ble_eq_true rfl⟩ (Nat.le_of_ble_eq_true rfl) dX3_fewestWithWall_1 (Jk_v rfl rfl fun hok1 => ?_)
  refine J_if_ne (pc := 4) (tgt := 17) dX3_fewestWithWall_4 (by decide) (fun c2 => ?_) (fun c2 => ?_)
  · replace h := ifn c2 h
    refine J_aload_n (pc := 17) dX3_fewestWithWall_17 rfl 0 rfl ?_
    refine get_0_0 (pc := 18) w_154 dX3_fewestWithWall_18 ?_
    obtain ⟨v3, hc4, h⟩ := obind_e h
    refine J_callV (g := mi_X1_takenCells) (ci := 1) (pc := 21) [] [] mv_X1_takenCells w_203 (k_X1_takenCells  _ hc4) rfl (by decide) rfl rfl rfl ⟨⟨Nat.le_of_ble_eq_true rfl, Nat.le_of_ble_eq_true rfl⟩, Nat.le_of_ble_eq_true rfl, Nat.le_of_ble_eq_true rfl⟩ (Nat.le_of_ble_eq_true rfl) dX3_fewestWithWall_21 (Jk_v rfl rfl fun hok5 => ?_)
    refine J_iconst (v := (1 : Int32)) (pc := 24) dX3_fewestWithWall_24 (by decide) ?_
    refine J_iload_n (pc := 25) dX3_fewestWithWall_25 rfl 1 rfl ?_
    refine J_ishl (pc := 26) dX3_fewestWithWall_26 ?_
    refine J_iand (pc := 27) dX3_fewestWithWall_27 ?_
    refine J_if_eq (pc := 28) (tgt := 42) dX3_fewestWithWall_28 (by decide) (fun c6 => ?_) (fun c6 => ?_)
    · replace h := ifp c6 h
      refine J_aload_n (pc := 42) dX3_fewestWithWall_42 rfl 0 rfl ?_
      refine get_0_3 (pc := 43) w_157 dX3_fewestWithWall_43 ?_
      refine J_aload_n (pc := 46) dX3_fewestWithWall_46 rfl 0 rfl ?_
      refine get_0_0 (pc := 47) w_154 dX3_fewestWithWall_47 ?_
      refine J_aload_n (pc := 50) dX3_fewestWithWall_50 rfl 0 rfl ?_
      refine get_0_0 (pc := 51) w_154 dX3_fewestWithWall_51 ?_
      refine get_1_5 (pc := 54) w_61 dX3_fewestWithWall_54 ?_
      refine J_aload_n (pc := 57) dX3_fewestWithWall_57 rfl 0 rfl ?_
      refine get_0_0 (pc := 58) w_154 dX3_fewestWithWall_58 ?_
      refine get_1_6 (pc := 61) w_63 dX3_fewestWithWall_61 ?_
      refine J_iconst (v := (1 : Int32)) (pc := 64) dX3_fewestWithWall_64 (by decide) ?_
      refine J_iload_n (pc := 65) dX3_fewestWithWall_65 rfl 1 rfl ?_
      refine J_ishl (pc := 66) dX3_fewestWithWall_66 ?_
      refine J_ior (pc := 67) dX3_fewestWithWall_67 ?_
      obtain ⟨M7, hc8, h⟩ := obind_e h
      refine J_callV (g := mi_X0_load) (ci := 0) (pc := 68) [.ref 1, .int (M.1 1 5), .int ((M.1 1 6) ||| ((1 : Int32) <<< (a1 &&& 31)))] [] mv_X0_load w_254 (k_X0_load (M.1 1 5) ((M.1 1 6) ||| ((1 : Int32) <<< (a1 &&& 31))) _ hc8) rfl (by decide) rfl rfl rfl ⟨⟨Nat.le_of_ble_eq_true rfl, Nat.le_of_ble_eq_true rfl⟩, Nat.le_of_ble_eq_true rfl, Nat.le_of_ble_eq_true rfl⟩ (Nat.le_of_ble_eq_true rfl) dX3_fewestWithWall_68 (Jk_0 rfl rfl ?_)
      refine J_aload_n (pc := 71) dX3_fewestWithWall_71 rfl 0 rfl ?_
      refine get_0_3 (pc := 72) w_157 dX3_fewestWithWall_72 ?_
      obtain ⟨v9, M10, hc11, h⟩ := obind2_e h
      refine J_callV (g := mi_X0_slidesFromStart) (ci := 0) (pc := 75) [] [] mv_X0_slidesFromStart w_276 (k_X0_slidesFromStart  _ hc11) rfl (by decide) rfl rfl rfl ⟨⟨Nat.le_of_ble_eq_true rfl, Nat.le_of_ble_eq_true rfl⟩, Nat.le_of_ble_eq_true rfl, Nat.le_of_ble_eq_true rfl⟩ (Nat.le_of_ble_eq_true rfl) dX3_fewestWithWall_75 (Jk_v rfl rfl fun hok12 => ?_)
      cases h
      refine J_wide (k' := 1) (n' := 6) (Nat.le_of_ble_eq_true rfl) (Nat.le_of_ble_eq_true rfl) ?_
      exact J_ireturn dX3_fewestWithWall_78 rfl rfl rfl rfl rfl
    · replace h := ifn c6 h
      cases h
      exact J_throwSW (pc := 31) (text := "a car or a wall is on the cell") rfl rfl rfl (by decide +kernel) w_535 w_29 (by decide) ats_RX3_66 dX3_fewestWithWall_31 dX3_fewestWithWall_34 dX3_fewestWithWall_35 dX3_fewestWithWall_38 dX3_fewestWithWall_41 ⟨⟨Nat.le_of_ble_eq_true rfl, Nat.le_of_ble_eq_true rfl⟩, Nat.le_of_ble_eq_true rfl, Nat.le_of_ble_eq_true rfl⟩
  · replace h := ifp c2 h
    cases h
    exact J_throwS (pc := 7) (text := "there is no such cell") rfl rfl rfl (by decide +kernel) w_451 w_27 (by decide) ats_RX3_168 dX3_fewestWithWall_7 dX3_fewestWithWall_10 dX3_fewestWithWall_11 dX3_fewestWithWall_13 dX3_fewestWithWall_16 ⟨⟨Nat.le_of_ble_eq_true rfl, Nat.le_of_ble_eq_true rfl⟩, Nat.le_of_ble_eq_true rfl, Nat.le_of_ble_eq_true rfl⟩
set_option maxHeartbeats 4000000 in
set_option maxRecDepth 100000 in
theorem kL_X3_bitsOf_L7 {κ : Kx} {E : En} {Q : State → Prop} {ρ : Type} {r : ρ} (M : Wd) (K35 : UInt64 → Int64 → Option ρ) (hK35 : ∀ (x2 : UInt64) (x4 : Int64), K35 x2 x4 = some r → J κ E mi_X3_bitsOf Q 0 0 [(2, .double x2), (4, .long x4)] M 35 []) : ∀ (m : Nat) (x2 : UInt64) (x4 : Int64), F_X3_bitsOf_L7 K35 m x2 x4 = some r → J κ E mi_X3_bitsOf Q 0 0 [(2, .double x2), (4, .long x4)] M 7 [] := by
  intro m
  induction m with
  | zero => intro x2 x4 h; exact (nomatch (show (none : Option ρ) = some r from h))
  | succ m ih =>
    intro x2 x4 h
    unfold F_X3_bitsOf_L7 at h
    refine J_dload_n (pc := 7) dX3_bitsOf_7 rfl 0 rfl ?_
    refine J_dconst1 (pc := 8) dX3_bitsOf_8 ?_
    refine J_dcmp (pc := 9) dX3_bitsOf_9 ?_
    refine J_if_ge (pc := 10) (tgt := 35) dX3_bitsOf_10 (by decide) (fun c1 => ?_) (fun c1 => ?_)
    · replace h := ifp c1 h
      exact hK35 _ _ h
    · replace h := ifn c1 h
      refine J_lload (pc := 13) dX3_bitsOf_13 1 rfl ?_
      refine J_lconst (v := (1 : Int64)) (pc := 15) dX3_bitsOf_15 (by decide) ?_
      refine J_lcmp (pc := 16) dX3_bitsOf_16 ?_
      refine J_if_le (pc := 17) (tgt := 35) dX3_bitsOf_17 (by decide) (fun c2 => ?_) (fun c2 => ?_)
      · replace h := ifp c2 h
        exact hK35 _ _ h
      · replace h := ifn c2 h
        refine J_dload_n (pc := 20) dX3_bitsOf_20 rfl 0 rfl ?_
        refine J_ldc2d (pc := 21) w_409 dX3_bitsOf_21 ?_
        obtain ⟨hn3, h⟩ := grd_e h
        refine J_dmul (pc := 24) dX3_bitsOf_24 hn3 ?_
        obtain ⟨v4, e5, h⟩ := bnd_e h
        refine J_topd e5 ?_
        refine J_dstore_n (pc := 25) dX3_bitsOf_25 rfl (Nat.le_of_ble_eq_true rfl) [0, 1] rfl ?_
        refine J_lload (pc := 26) dX3_bitsOf_26 1 rfl ?_
        refine J_lconst (v := (1 : Int64)) (pc := 28) dX3_bitsOf_28 (by decide) ?_
        refine J_lsub (pc := 29) dX3_bitsOf_29 ?_
        obtain ⟨v6, e7, h⟩ := bnd_e h
        refine J_topl e7 ?_
        refine J_lstore (pc := 30) dX3_bitsOf_30 (Nat.le_of_ble_eq_true rfl) [1, 0] rfl ?_
        refine J_LS [(2, .double v4), (4, .long v6)] [] rfl rfl ?_
        refine J_goto (pc := 32) (tgt := 7) dX3_bitsOf_32 (by decide) ?_
        exact ih _ _ h
set_option maxHeartbeats 4000000 in
set_option maxRecDepth 100000 in
theorem k_X3_bitsOf {E : En} (a0 : UInt64) (M : Wd) {r : Int64} (h : F_X3_bitsOf a0 = some r) : Con E mi_X3_bitsOf [.double a0] M (.inl (some (.long r))) M := by
  unfold F_X3_bitsOf at h
  refine Con.of (by decide) rfl (Nat.le_of_ble_eq_true rfl) (fun κ => ?_)
  show J κ E mi_X3_bitsOf _ 0 0 [(0, .double a0)] M 0 []
  refine J_dload_n (pc := 0) dX3_bitsOf_0 rfl 0 rfl ?_
  refine J_dstore_n (pc := 1) dX3_bitsOf_1 rfl (Nat.le_of_ble_eq_true rfl) [1, 0] rfl ?_
  refine J_ldc2 (pc := 2) w_408 dX3_bitsOf_2 ?_
  refine J_lstore (pc := 5) dX3_bitsOf_5 (Nat.le_of_ble_eq_true rfl) [1, 2, 0] rfl ?_
  refine J_LS [(0, .double a0), (2, .double a0), (4, .long (1023 : Int64))] [] rfl rfl ?_
  refine J_sub [1, 2] rfl ?_
  refine kL_X3_bitsOf_L7 _ _ (fun v8 v9 h => ?_) fuelN _ _ h
  refine J_dload_n (pc := 35) dX3_bitsOf_35 rfl 0 rfl ?_
  refine J_dconst1 (pc := 36) dX3_bitsOf_36 ?_
  obtain ⟨hn10, h⟩ := grd_e h
  refine J_dsub (pc := 37) dX3_bitsOf_37 hn10 ?_
  refine J_ldc2d (pc := 38) w_410 dX3_bitsOf_38 ?_
  obtain ⟨hn11, h⟩ := grd_e h
  refine J_dmul (pc := 41) dX3_bitsOf_41 hn11 ?_
  refine J_d2l (pc := 42) dX3_bitsOf_42 ?_
  obtain ⟨v12, e13, h⟩ := bnd_e h
  refine J_topl e13 ?_
  refine J_lstore (pc := 43) dX3_bitsOf_43 (Nat.le_of_ble_eq_true rfl) [1, 2, 0] rfl ?_
  refine J_lload (pc := 45) dX3_bitsOf_45 1 rfl ?_
  refine J_bipush (v := (52 : Int32)) (pc := 47) dX3_bitsOf_47 (by decide) ?_
  refine J_lshl (pc := 49) dX3_bitsOf_49 rfl ?_
  refine J_lload (pc := 50) dX3_bitsOf_50 2 rfl ?_
  refine J_lor (pc := 52) dX3_bitsOf_52 ?_
  cases h
  exact J_lreturn dX3_bitsOf_53 rfl rfl rfl rfl rfl
set_option maxHeartbeats 4000000 in
set_option maxRecDepth 100000 in
theorem k_X3_mix {E : En} (a0 : Int64) (a2 : Int64) (M : Wd) : Con E mi_X3_mix [.long a0, .long a2] M (.inl (some (.long (F_X3_mix a0 a2)))) M := by
  obtain ⟨r, h⟩ : ∃ r, F_X3_mix a0 a2 = r := ⟨_, rfl⟩
  rw [h]
  unfold F_X3_mix at h
  refine Con.of (by decide) rfl (Nat.le_of_ble_eq_true rfl) (fun κ => ?_)
  show J κ E mi_X3_mix _ 0 0 [(0, .long a0), (2, .long a2)] M 0 []
  refine J_ldc2 (pc := 0) w_188 dX3_mix_0 ?_
  refine J_lload_n (pc := 3) dX3_mix_3 rfl 0 rfl ?_
  refine J_lmul (pc := 4) dX3_mix_4 ?_
  refine J_lload_n (pc := 5) dX3_mix_5 rfl 1 rfl ?_
  refine J_ladd (pc := 6) dX3_mix_6 ?_
  subst h
  exact J_lreturn dX3_mix_7 rfl rfl rfl rfl rfl
set_option maxHeartbeats 4000000 in
set_option maxRecDepth 100000 in
theorem k_X3_hashOfArrangements {E : En} (a1 : Int64) (M : Wd) {r : Int64} (h : F_X3_hashOfArrangements a1 M = some r) : Con E mi_X3_hashOfArrangements [.ref 0, .long a1] M (.inl (some (.long r))) M := by
  unfold F_X3_hashOfArrangements at h
  refine Con.of (by decide) rfl (Nat.le_of_ble_eq_true rfl) (fun κ => ?_)
  show J κ E mi_X3_hashOfArrangements _ 0 0 [(0, .ref 0), (1, .long a1)] M 0 []
  refine J_lload_n (pc := 0) dX3_hashOfArrangements_0 rfl 1 rfl ?_
  refine J_aload_n (pc := 1) dX3_hashOfArrangements_1 rfl 0 rfl ?_
  refine get_0_3 (pc := 2) w_157 dX3_hashOfArrangements_2 ?_
  refine get_44_9 (pc := 5) w_110 dX3_hashOfArrangements_5 ?_
  refine J_i2l (pc := 8) dX3_hashOfArrangements_8 ?_
  refine J_callS (g := mi_X3_mix) (pc := 9) [.long a1, .long (M.1 44 9).toInt64] [] ms_X3_mix w_185 (k_X3_mix  a1 (M.1 44 9).toInt64 _) rfl rfl ⟨⟨Nat.le_of_ble_eq_true rfl, Nat.le_of_ble_eq_true rfl⟩, Nat.le_of_ble_eq_true rfl, Nat.le_of_ble_eq_true rfl⟩ (Nat.le_of_ble_eq_true rfl) dX3_hashOfArrangements_9 (Jk_v rfl rfl fun hok1 => ?_)
  obtain ⟨v2, e3, h⟩ := bnd_e h
  refine J_topl e3 ?_
  refine J_lstore_n (pc := 12) dX3_hashOfArrangements_12 rfl (Nat.le_of_ble_eq_true rfl) [1, 2, 0] rfl ?_
  refine J_lload_n (pc := 13) dX3_hashOfArrangements_13 rfl 2 rfl ?_
  refine J_aload_n (pc := 14) dX3_hashOfArrangements_14 rfl 0 rfl ?_
  refine get_0_3 (pc := 15) w_157 dX3_hashOfArrangements_15 ?_
  obtain ⟨v4, hc5, h⟩ := obind_e h
  refine J_callV (g := mi_X0_foundOut) (ci := 0) (pc := 18) [] [.long v2] mv_X0_foundOut w_369 (k_X0_foundOut  _ hc5) rfl (by decide) rfl rfl rfl ⟨⟨Nat.le_of_ble_eq_true rfl, Nat.le_of_ble_eq_true rfl⟩, Nat.le_of_ble_eq_true rfl, Nat.le_of_ble_eq_true rfl⟩ (Nat.le_of_ble_eq_true rfl) dX3_hashOfArrangements_18 (Jk_v rfl rfl fun hok6 => ?_)
  refine J_i2l (pc := 21) dX3_hashOfArrangements_21 ?_
  refine J_callS (g := mi_X3_mix) (pc := 22) [.long v2, .long v4.toInt64] [] ms_X3_mix w_185 (k_X3_mix  v2 v4.toInt64 _) rfl rfl ⟨⟨Nat.le_of_ble_eq_true rfl, Nat.le_of_ble_eq_true rfl⟩, Nat.le_of_ble_eq_true rfl, Nat.le_of_ble_eq_true rfl⟩ (Nat.le_of_ble_eq_true rfl) dX3_hashOfArrangements_22 (Jk_v rfl rfl fun hok7 => ?_)
  obtain ⟨v8, e9, h⟩ := bnd_e h
  refine J_topl e9 ?_
  refine J_lstore_n (pc := 25) dX3_hashOfArrangements_25 rfl (Nat.le_of_ble_eq_true rfl) [1, 2, 0] rfl ?_
  refine J_LS [(0, .ref 0), (1, .long a1), (3, .long v8)] [] rfl rfl ?_
  refine J_lload_n (pc := 26) dX3_hashOfArrangements_26 rfl 2 rfl ?_
  refine J_aload_n (pc := 27) dX3_hashOfArrangements_27 rfl 0 rfl ?_
  refine get_0_3 (pc := 28) w_157 dX3_hashOfArrangements_28 ?_
  obtain ⟨v10, hc11, h⟩ := obind_e h
  refine J_callV (g := mi_X0_farthestFound) (ci := 0) (pc := 31) [] [.long v8] mv_X0_farthestFound w_373 (k_X0_farthestFound  _ hc11) rfl (by decide) rfl rfl rfl ⟨⟨Nat.le_of_ble_eq_true rfl, Nat.le_of_ble_eq_true rfl⟩, Nat.le_of_ble_eq_true rfl, Nat.le_of_ble_eq_true rfl⟩ (Nat.le_of_ble_eq_true rfl) dX3_hashOfArrangements_31 (Jk_v rfl rfl fun hok12 => ?_)
  refine J_i2l (pc := 34) dX3_hashOfArrangements_34 ?_
  refine J_callS (g := mi_X3_mix) (pc := 35) [.long v8, .long v10.toInt64] [] ms_X3_mix w_185 (k_X3_mix  v8 v10.toInt64 _) rfl rfl ⟨⟨Nat.le_of_ble_eq_true rfl, Nat.le_of_ble_eq_true rfl⟩, Nat.le_of_ble_eq_true rfl, Nat.le_of_ble_eq_true rfl⟩ (Nat.le_of_ble_eq_true rfl) dX3_hashOfArrangements_35 (Jk_v rfl rfl fun hok13 => ?_)
  obtain ⟨v14, e15, h⟩ := bnd_e h
  refine J_topl e15 ?_
  refine J_lstore_n (pc := 38) dX3_hashOfArrangements_38 rfl (Nat.le_of_ble_eq_true rfl) [1, 2, 0] rfl ?_
  refine J_lload_n (pc := 39) dX3_hashOfArrangements_39 rfl 2 rfl ?_
  refine J_aload_n (pc := 40) dX3_hashOfArrangements_40 rfl 0 rfl ?_
  refine get_0_3 (pc := 41) w_157 dX3_hashOfArrangements_41 ?_
  obtain ⟨v16, hc17, h⟩ := obind_e h
  refine J_callV (g := mi_X0_allArrangements) (ci := 0) (pc := 44) [] [.long v14] mv_X0_allArrangements w_377 (k_X0_allArrangements  _ hc17) rfl (by decide) rfl rfl rfl ⟨⟨Nat.le_of_ble_eq_true rfl, Nat.le_of_ble_eq_true rfl⟩, Nat.le_of_ble_eq_true rfl, Nat.le_of_ble_eq_true rfl⟩ (Nat.le_of_ble_eq_true rfl) dX3_hashOfArrangements_44 (Jk_v rfl rfl fun hok18 => ?_)
  refine J_i2l (pc := 47) dX3_hashOfArrangements_47 ?_
  refine J_callS (g := mi_X3_mix) (pc := 48) [.long v14, .long v16.toInt64] [] ms_X3_mix w_185 (k_X3_mix  v14 v16.toInt64 _) rfl rfl ⟨⟨Nat.le_of_ble_eq_true rfl, Nat.le_of_ble_eq_true rfl⟩, Nat.le_of_ble_eq_true rfl, Nat.le_of_ble_eq_true rfl⟩ (Nat.le_of_ble_eq_true rfl) dX3_hashOfArrangements_48 (Jk_v rfl rfl fun hok19 => ?_)
  cases h
  exact J_lreturn dX3_hashOfArrangements_51 rfl rfl rfl rfl rfl
set_option maxHeartbeats 4000000 in
set_option maxRecDepth 100000 in
theorem kL_X3_hashOfCars_L5 {κ : Kx} {E : En} {Q : State → Prop} {ρ : Type} {r : ρ} (M : Wd) (K125 : Int64 → Option ρ) (hK125 : ∀ (x3 : Int64), K125 x3 = some r → J κ E mi_X3_hashOfCars Q 0 0 [(3, .long x3)] M 125 []) : ∀ (m : Nat) (x3 : Int64) (x5 : Int32), F_X3_hashOfCars_L5 M K125 m x3 x5 = some r → J κ E mi_X3_hashOfCars Q 0 0 [(0, .ref 0), (3, .long x3), (5, .int x5)] M 5 [] := by
  intro m
  induction m with
  | zero => intro x3 x5 h; exact (nomatch (show (none : Option ρ) = some r from h))
  | succ m ih =>
    intro x3 x5 h
    unfold F_X3_hashOfCars_L5 at h
    refine J_iload (pc := 5) dX3_hashOfCars_5 2 rfl ?_
    refine J_aload_n (pc := 7) dX3_hashOfCars_7 rfl 0 rfl ?_
    refine get_0_0 (pc := 8) w_154 dX3_hashOfCars_8 ?_
    refine get_1_5 (pc := 11) w_61 dX3_hashOfCars_11 ?_
    refine J_icmp_ge (pc := 14) (tgt := 125) dX3_hashOfCars_14 (by decide) (fun c1 => ?_) (fun c1 => ?_)
    · replace h := ifp c1 h
      refine J_sub [1] rfl ?_
      exact hK125 _ h
    · replace h := ifn c1 h
      refine J_iload (pc := 17) dX3_hashOfCars_17 2 rfl ?_
      refine J_bipush (v := (6 : Int32)) (pc := 19) dX3_hashOfCars_19 (by decide) ?_
      refine J_icmp_ge (pc := 21) (tgt := 125) dX3_hashOfCars_21 (by decide) (fun c2 => ?_) (fun c2 => ?_)
      · replace h := ifp c2 h
        refine J_sub [1] rfl ?_
        exact hK125 _ h
      · replace h := ifn c2 h
        refine J_lload_n (pc := 24) dX3_hashOfCars_24 rfl 1 rfl ?_
        refine J_aload_n (pc := 25) dX3_hashOfCars_25 rfl 0 rfl ?_
        refine get_0_0 (pc := 26) w_154 dX3_hashOfCars_26 ?_
        refine get_1_0 (pc := 29) w_49 dX3_hashOfCars_29 ?_
        refine J_iload (pc := 32) dX3_hashOfCars_32 2 rfl ?_
        obtain ⟨v3, e4, hk5, h⟩ := ldi_e h
        refine J_iald (c := 2) (N := 6) (pc := 34) ja_2 (Nat.le_of_ble_eq_true rfl) hk5 dX3_hashOfCars_34 ?_
        refine J_topi e4 ?_
        refine J_i2l (pc := 35) dX3_hashOfCars_35 ?_
        refine J_callS (g := mi_X3_mix) (pc := 36) [.long x3, .long v3.toInt64] [] ms_X3_mix w_185 (k_X3_mix  x3 v3.toInt64 _) rfl rfl ⟨⟨Nat.le_of_ble_eq_true rfl, Nat.le_of_ble_eq_true rfl⟩, Nat.le_of_ble_eq_true rfl, Nat.le_of_ble_eq_true rfl⟩ (Nat.le_of_ble_eq_true rfl) dX3_hashOfCars_36 (Jk_v rfl rfl fun hok6 => ?_)
        obtain ⟨v7, e8, h⟩ := bnd_e h
        refine J_topl e8 ?_
        refine J_lstore_n (pc := 39) dX3_hashOfCars_39 rfl (Nat.le_of_ble_eq_true rfl) [1, 0, 2] rfl ?_
        refine J_lload_n (pc := 40) dX3_hashOfCars_40 rfl 1 rfl ?_
        refine J_aload_n (pc := 41) dX3_hashOfCars_41 rfl 0 rfl ?_
        refine get_0_0 (pc := 42) w_154 dX3_hashOfCars_42 ?_
        refine get_1_1 (pc := 45) w_52 dX3_hashOfCars_45 ?_
        refine J_iload (pc := 48) dX3_hashOfCars_48 2 rfl ?_
        obtain ⟨v9, e10, hk11, h⟩ := ldi_e h
        refine J_iald (c := 3) (N := 6) (pc := 50) ja_3 (Nat.le_of_ble_eq_true rfl) hk11 dX3_hashOfCars_50 ?_
        refine J_topi e10 ?_
        refine J_i2l (pc := 51) dX3_hashOfCars_51 ?_
        refine J_callS (g := mi_X3_mix) (pc := 52) [.long v7, .long v9.toInt64] [] ms_X3_mix w_185 (k_X3_mix  v7 v9.toInt64 _) rfl rfl ⟨⟨Nat.le_of_ble_eq_true rfl, Nat.le_of_ble_eq_true rfl⟩, Nat.le_of_ble_eq_true rfl, Nat.le_of_ble_eq_true rfl⟩ (Nat.le_of_ble_eq_true rfl) dX3_hashOfCars_52 (Jk_v rfl rfl fun hok12 => ?_)
        obtain ⟨v13, e14, h⟩ := bnd_e h
        refine J_topl e14 ?_
        refine J_lstore_n (pc := 55) dX3_hashOfCars_55 rfl (Nat.le_of_ble_eq_true rfl) [1, 0, 2] rfl ?_
        refine J_LS [(0, .ref 0), (3, .long v13), (5, .int x5)] [] rfl rfl ?_
        refine J_lload_n (pc := 56) dX3_hashOfCars_56 rfl 1 rfl ?_
        refine J_aload_n (pc := 57) dX3_hashOfCars_57 rfl 0 rfl ?_
        refine get_0_0 (pc := 58) w_154 dX3_hashOfCars_58 ?_
        refine get_1_2 (pc := 61) w_55 dX3_hashOfCars_61 ?_
        refine J_iload (pc := 64) dX3_hashOfCars_64 2 rfl ?_
        obtain ⟨v15, e16, hk17, h⟩ := ldi_e h
        refine J_iald (c := 4) (N := 6) (pc := 66) ja_4 (Nat.le_of_ble_eq_true rfl) hk17 dX3_hashOfCars_66 ?_
        refine J_topi e16 ?_
        refine J_i2l (pc := 67) dX3_hashOfCars_67 ?_
        refine J_callS (g := mi_X3_mix) (pc := 68) [.long v13, .long v15.toInt64] [] ms_X3_mix w_185 (k_X3_mix  v13 v15.toInt64 _) rfl rfl ⟨⟨Nat.le_of_ble_eq_true rfl, Nat.le_of_ble_eq_true rfl⟩, Nat.le_of_ble_eq_true rfl, Nat.le_of_ble_eq_true rfl⟩ (Nat.le_of_ble_eq_true rfl) dX3_hashOfCars_68 (Jk_v rfl rfl fun hok18 => ?_)
        obtain ⟨v19, e20, h⟩ := bnd_e h
        refine J_topl e20 ?_
        refine J_lstore_n (pc := 71) dX3_hashOfCars_71 rfl (Nat.le_of_ble_eq_true rfl) [1, 0, 2] rfl ?_
        refine J_lload_n (pc := 72) dX3_hashOfCars_72 rfl 1 rfl ?_
        refine J_aload_n (pc := 73) dX3_hashOfCars_73 rfl 0 rfl ?_
        refine get_0_0 (pc := 74) w_154 dX3_hashOfCars_74 ?_
        refine J_iload (pc := 77) dX3_hashOfCars_77 2 rfl ?_
        obtain ⟨v21, hc22, h⟩ := obind_e h
        refine J_callV (g := mi_X1_loggedSteps) (ci := 1) (pc := 79) [.int x5] [.long v19] mv_X1_loggedSteps w_397 (k_X1_loggedSteps  x5 _ hc22) rfl (by decide) rfl rfl rfl ⟨⟨Nat.le_of_ble_eq_true rfl, Nat.le_of_ble_eq_true rfl⟩, Nat.le_of_ble_eq_true rfl, Nat.le_of_ble_eq_true rfl⟩ (Nat.le_of_ble_eq_true rfl) dX3_hashOfCars_79 (Jk_v rfl rfl fun hok23 => ?_)
        refine J_i2l (pc := 82) dX3_hashOfCars_82 ?_
        refine J_callS (g := mi_X3_mix) (pc := 83) [.long v19, .long v21.toInt64] [] ms_X3_mix w_185 (k_X3_mix  v19 v21.toInt64 _) rfl rfl ⟨⟨Nat.le_of_ble_eq_true rfl, Nat.le_of_ble_eq_true rfl⟩, Nat.le_of_ble_eq_true rfl, Nat.le_of_ble_eq_true rfl⟩ (Nat.le_of_ble_eq_true rfl) dX3_hashOfCars_83 (Jk_v rfl rfl fun hok24 => ?_)
        obtain ⟨v25, e26, h⟩ := bnd_e h
        refine J_topl e26 ?_
        refine J_lstore_n (pc := 86) dX3_hashOfCars_86 rfl (Nat.le_of_ble_eq_true rfl) [1, 0, 2] rfl ?_
        refine J_LS [(0, .ref 0), (3, .long v25), (5, .int x5)] [] rfl rfl ?_
        refine J_lload_n (pc := 87) dX3_hashOfCars_87 rfl 1 rfl ?_
        refine J_aload_n (pc := 88) dX3_hashOfCars_88 rfl 0 rfl ?_
        refine get_0_0 (pc := 89) w_154 dX3_hashOfCars_89 ?_
        refine J_iload (pc := 92) dX3_hashOfCars_92 2 rfl ?_
        refine J_iconst (v := (1 : Int32)) (pc := 94) dX3_hashOfCars_94 (by decide) ?_
        obtain ⟨v27, hc28, h⟩ := obind_e h
        refine J_callV (g := mi_X1_roomOf) (ci := 1) (pc := 95) [.int x5, .int (1 : Int32)] [.long v25] mv_X1_roomOf w_223 (k_X1_roomOf  x5 (1 : Int32) _ hc28) rfl (by decide) rfl rfl rfl ⟨⟨Nat.le_of_ble_eq_true rfl, Nat.le_of_ble_eq_true rfl⟩, Nat.le_of_ble_eq_true rfl, Nat.le_of_ble_eq_true rfl⟩ (Nat.le_of_ble_eq_true rfl) dX3_hashOfCars_95 (Jk_v rfl rfl fun hok29 => ?_)
        refine J_i2l (pc := 98) dX3_hashOfCars_98 ?_
        refine J_callS (g := mi_X3_mix) (pc := 99) [.long v25, .long v27.toInt64] [] ms_X3_mix w_185 (k_X3_mix  v25 v27.toInt64 _) rfl rfl ⟨⟨Nat.le_of_ble_eq_true rfl, Nat.le_of_ble_eq_true rfl⟩, Nat.le_of_ble_eq_true rfl, Nat.le_of_ble_eq_true rfl⟩ (Nat.le_of_ble_eq_true rfl) dX3_hashOfCars_99 (Jk_v rfl rfl fun hok30 => ?_)
        obtain ⟨v31, e32, h⟩ := bnd_e h
        refine J_topl e32 ?_
        refine J_lstore_n (pc := 102) dX3_hashOfCars_102 rfl (Nat.le_of_ble_eq_true rfl) [1, 0, 2] rfl ?_
        refine J_lload_n (pc := 103) dX3_hashOfCars_103 rfl 1 rfl ?_
        refine J_aload_n (pc := 104) dX3_hashOfCars_104 rfl 0 rfl ?_
        refine get_0_0 (pc := 105) w_154 dX3_hashOfCars_105 ?_
        refine J_iload (pc := 108) dX3_hashOfCars_108 2 rfl ?_
        refine J_iconst (v := (-1 : Int32)) (pc := 110) dX3_hashOfCars_110 (by decide) ?_
        obtain ⟨v33, hc34, h⟩ := obind_e h
        refine J_callV (g := mi_X1_roomOf) (ci := 1) (pc := 111) [.int x5, .int (-1 : Int32)] [.long v31] mv_X1_roomOf w_223 (k_X1_roomOf  x5 (-1 : Int32) _ hc34) rfl (by decide) rfl rfl rfl ⟨⟨Nat.le_of_ble_eq_true rfl, Nat.le_of_ble_eq_true rfl⟩, Nat.le_of_ble_eq_true rfl, Nat.le_of_ble_eq_true rfl⟩ (Nat.le_of_ble_eq_true rfl) dX3_hashOfCars_111 (Jk_v rfl rfl fun hok35 => ?_)
        refine J_i2l (pc := 114) dX3_hashOfCars_114 ?_
        refine J_callS (g := mi_X3_mix) (pc := 115) [.long v31, .long v33.toInt64] [] ms_X3_mix w_185 (k_X3_mix  v31 v33.toInt64 _) rfl rfl ⟨⟨Nat.le_of_ble_eq_true rfl, Nat.le_of_ble_eq_true rfl⟩, Nat.le_of_ble_eq_true rfl, Nat.le_of_ble_eq_true rfl⟩ (Nat.le_of_ble_eq_true rfl) dX3_hashOfCars_115 (Jk_v rfl rfl fun hok36 => ?_)
        obtain ⟨v37, e38, h⟩ := bnd_e h
        refine J_topl e38 ?_
        refine J_lstore_n (pc := 118) dX3_hashOfCars_118 rfl (Nat.le_of_ble_eq_true rfl) [1, 0, 2] rfl ?_
        refine J_LS [(0, .ref 0), (3, .long v37), (5, .int x5)] [] rfl rfl ?_
        obtain ⟨v39, e40, h⟩ := bnd_e h
        refine J_iinc (v := v39) (pc := 119) dX3_hashOfCars_119 2 rfl (by rw [e40]; rfl) (Nat.le_of_ble_eq_true rfl) [1, 2, 0] rfl ?_
        refine J_goto (pc := 122) (tgt := 5) dX3_hashOfCars_122 (by decide) ?_
        exact ih _ _ h
set_option maxHeartbeats 4000000 in
set_option maxRecDepth 100000 in
theorem k_X3_hashOfCars {E : En} (a1 : Int64) (M : Wd) {r : Int64} (h : F_X3_hashOfCars a1 M = some r) : Con E mi_X3_hashOfCars [.ref 0, .long a1] M (.inl (some (.long r))) M := by
  unfold F_X3_hashOfCars at h
  refine Con.of (by decide) rfl (Nat.le_of_ble_eq_true rfl) (fun κ => ?_)
  show J κ E mi_X3_hashOfCars _ 0 0 [(0, .ref 0), (1, .long a1)] M 0 []
  refine J_lload_n (pc := 0) dX3_hashOfCars_0 rfl 1 rfl ?_
  refine J_lstore_n (pc := 1) dX3_hashOfCars_1 rfl (Nat.le_of_ble_eq_true rfl) [1, 2, 0] rfl ?_
  refine J_iconst (v := (0 : Int32)) (pc := 2) dX3_hashOfCars_2 (by decide) ?_
  refine J_istore (pc := 3) dX3_hashOfCars_3 (Nat.le_of_ble_eq_true rfl) [1, 2, 3, 0] rfl ?_
  refine J_LS [(0, .ref 0), (1, .long a1), (3, .long a1), (5, .int (0 : Int32))] [] rfl rfl ?_
  refine J_sub [0, 2, 3] rfl ?_
  refine kL_X3_hashOfCars_L5 _ _ (fun v41 h => ?_) fuelN _ _ h
  refine J_lload_n (pc := 125) dX3_hashOfCars_125 rfl 0 rfl ?_
  cases h
  exact J_lreturn dX3_hashOfCars_126 rfl rfl rfl rfl rfl
set_option maxHeartbeats 4000000 in
set_option maxRecDepth 100000 in
theorem kL_X3_hashOfCells_L5 {κ : Kx} {E : En} {Q : State → Prop} {ρ : Type} {r : ρ} (M : Wd) (K55 : Int64 → Option ρ) (hK55 : ∀ (x3 : Int64), K55 x3 = some r → J κ E mi_X3_hashOfCells Q 0 0 [(3, .long x3)] M 55 []) : ∀ (m : Nat) (x3 : Int64) (x5 : Int32), F_X3_hashOfCells_L5 M K55 m x3 x5 = some r → J κ E mi_X3_hashOfCells Q 0 0 [(0, .ref 0), (3, .long x3), (5, .int x5)] M 5 [] := by
  intro m
  induction m with
  | zero => intro x3 x5 h; exact (nomatch (show (none : Option ρ) = some r from h))
  | succ m ih =>
    intro x3 x5 h
    unfold F_X3_hashOfCells_L5 at h
    refine J_iload (pc := 5) dX3_hashOfCells_5 2 rfl ?_
    refine J_bipush (v := (25 : Int32)) (pc := 7) dX3_hashOfCells_7 (by decide) ?_
    refine J_icmp_ge (pc := 9) (tgt := 55) dX3_hashOfCells_9 (by decide) (fun c1 => ?_) (fun c1 => ?_)
    · replace h := ifp c1 h
      refine J_sub [1] rfl ?_
      exact hK55 _ h
    · replace h := ifn c1 h
      refine J_lload_n (pc := 12) dX3_hashOfCells_12 rfl 1 rfl ?_
      refine J_aload_n (pc := 13) dX3_hashOfCells_13 rfl 0 rfl ?_
      refine get_0_0 (pc := 14) w_154 dX3_hashOfCells_14 ?_
      refine J_iload (pc := 17) dX3_hashOfCells_17 2 rfl ?_
      obtain ⟨v2, hc3, h⟩ := obind_e h
      refine J_callV (g := mi_X1_carAt) (ci := 1) (pc := 19) [.int x5] [.long x3] mv_X1_carAt w_385 (k_X1_carAt  x5 _ hc3) rfl (by decide) rfl rfl rfl ⟨⟨Nat.le_of_ble_eq_true rfl, Nat.le_of_ble_eq_true rfl⟩, Nat.le_of_ble_eq_true rfl, Nat.le_of_ble_eq_true rfl⟩ (Nat.le_of_ble_eq_true rfl) dX3_hashOfCells_19 (Jk_v rfl rfl fun hok4 => ?_)
      refine J_i2l (pc := 22) dX3_hashOfCells_22 ?_
      refine J_callS (g := mi_X3_mix) (pc := 23) [.long x3, .long v2.toInt64] [] ms_X3_mix w_185 (k_X3_mix  x3 v2.toInt64 _) rfl rfl ⟨⟨Nat.le_of_ble_eq_true rfl, Nat.le_of_ble_eq_true rfl⟩, Nat.le_of_ble_eq_true rfl, Nat.le_of_ble_eq_true rfl⟩ (Nat.le_of_ble_eq_true rfl) dX3_hashOfCells_23 (Jk_v rfl rfl fun hok5 => ?_)
      obtain ⟨v6, e7, h⟩ := bnd_e h
      refine J_topl e7 ?_
      refine J_lstore_n (pc := 26) dX3_hashOfCells_26 rfl (Nat.le_of_ble_eq_true rfl) [1, 0, 2] rfl ?_
      refine J_lload_n (pc := 27) dX3_hashOfCells_27 rfl 1 rfl ?_
      refine J_aload_n (pc := 28) dX3_hashOfCells_28 rfl 0 rfl ?_
      refine get_0_0 (pc := 29) w_154 dX3_hashOfCells_29 ?_
      refine J_iload (pc := 32) dX3_hashOfCells_32 2 rfl ?_
      refine J_callV (g := mi_X1_hasWallAt) (ci := 1) (pc := 34) [.int x5] [.long v6] mv_X1_hasWallAt w_389 (k_X1_hasWallAt  x5 _) rfl (by decide) rfl rfl rfl ⟨⟨Nat.le_of_ble_eq_true rfl, Nat.le_of_ble_eq_true rfl⟩, Nat.le_of_ble_eq_true rfl, Nat.le_of_ble_eq_true rfl⟩ (Nat.le_of_ble_eq_true rfl) dX3_hashOfCells_34 (Jk_v rfl rfl fun hok8 => ?_)
      obtain ⟨v9, e10, h⟩ := bnd_e h
      refine J_join [(0, .ref 0), (5, .int x5)] M 45 [.long v9, .long v6] ?_ (fun hJ => ?_)
      · refine J_callS (g := mi_X3_mix) (pc := 45) [.long v6, .long v9] [] ms_X3_mix w_185 (k_X3_mix  v6 v9 _) rfl rfl ⟨⟨Nat.le_of_ble_eq_true rfl, Nat.le_of_ble_eq_true rfl⟩, Nat.le_of_ble_eq_true rfl, Nat.le_of_ble_eq_true rfl⟩ (Nat.le_of_ble_eq_true rfl) dX3_hashOfCells_45 (Jk_v rfl rfl fun hok12 => ?_)
        obtain ⟨v13, e14, h⟩ := bnd_e h
        refine J_topl e14 ?_
        refine J_lstore_n (pc := 48) dX3_hashOfCells_48 rfl (Nat.le_of_ble_eq_true rfl) [1, 0, 2] rfl ?_
        obtain ⟨v15, e16, h⟩ := bnd_e h
        refine J_iinc (v := v15) (pc := 49) dX3_hashOfCells_49 2 rfl (by rw [e16]; rfl) (Nat.le_of_ble_eq_true rfl) [1, 2, 0] rfl ?_
        refine J_LS [(0, .ref 0), (3, .long v13), (5, .int v15)] [] rfl rfl ?_
        refine J_goto (pc := 52) (tgt := 5) dX3_hashOfCells_52 (by decide) ?_
        exact ih _ _ h
      · refine J_if_eq (pc := 37) (tgt := 44) dX3_hashOfCells_37 (by decide) (fun c11 => ?_) (fun c11 => ?_)
        · refine J_lconst (v := (0 : Int64)) (pc := 44) dX3_hashOfCells_44 (by decide) ?_
          refine J_sub [0, 2] rfl ?_
          refine J_topl (y := v9) (by rw [e10, if_pos c11]) ?_
          exact hJ
        · refine J_lconst (v := (1 : Int64)) (pc := 40) dX3_hashOfCells_40 (by decide) ?_
          refine J_goto (pc := 41) (tgt := 45) dX3_hashOfCells_41 (by decide) ?_
          refine J_sub [0, 2] rfl ?_
          refine J_topl (y := v9) (by rw [e10, if_neg c11]) ?_
          exact hJ
set_option maxHeartbeats 4000000 in
set_option maxRecDepth 100000 in
theorem k_X3_hashOfCells {E : En} (a1 : Int64) (M : Wd) {r : Int64} (h : F_X3_hashOfCells a1 M = some r) : Con E mi_X3_hashOfCells [.ref 0, .long a1] M (.inl (some (.long r))) M := by
  unfold F_X3_hashOfCells at h
  refine Con.of (by decide) rfl (Nat.le_of_ble_eq_true rfl) (fun κ => ?_)
  show J κ E mi_X3_hashOfCells _ 0 0 [(0, .ref 0), (1, .long a1)] M 0 []
  refine J_lload_n (pc := 0) dX3_hashOfCells_0 rfl 1 rfl ?_
  refine J_lstore_n (pc := 1) dX3_hashOfCells_1 rfl (Nat.le_of_ble_eq_true rfl) [1, 2, 0] rfl ?_
  refine J_iconst (v := (0 : Int32)) (pc := 2) dX3_hashOfCells_2 (by decide) ?_
  refine J_istore (pc := 3) dX3_hashOfCells_3 (Nat.le_of_ble_eq_true rfl) [1, 2, 3, 0] rfl ?_
  refine J_LS [(0, .ref 0), (1, .long a1), (3, .long a1), (5, .int (0 : Int32))] [] rfl rfl ?_
  refine J_sub [0, 2, 3] rfl ?_
  refine kL_X3_hashOfCells_L5 _ _ (fun v17 h => ?_) fuelN _ _ h
  refine J_lload_n (pc := 55) dX3_hashOfCells_55 rfl 0 rfl ?_
  cases h
  exact J_lreturn dX3_hashOfCells_56 rfl rfl rfl rfl rfl
set_option maxHeartbeats 4000000 in
set_option maxRecDepth 100000 in
theorem kL_X3_hashOfLog_L5 {κ : Kx} {E : En} {Q : State → Prop} {ρ : Type} {r : ρ} (M : Wd) (K62 : Int64 → Option ρ) (hK62 : ∀ (x3 : Int64), K62 x3 = some r → J κ E mi_X3_hashOfLog Q 0 0 [(3, .long x3)] M 62 []) : ∀ (m : Nat) (x3 : Int64) (x5 : Int32), F_X3_hashOfLog_L5 M K62 m x3 x5 = some r → J κ E mi_X3_hashOfLog Q 0 0 [(0, .ref 0), (3, .long x3), (5, .int x5)] M 5 [] := by
  intro m
  induction m with
  | zero => intro x3 x5 h; exact (nomatch (show (none : Option ρ) = some r from h))
  | succ m ih =>
    intro x3 x5 h
    unfold F_X3_hashOfLog_L5 at h
    refine J_iload (pc := 5) dX3_hashOfLog_5 2 rfl ?_
    refine J_aload_n (pc := 7) dX3_hashOfLog_7 rfl 0 rfl ?_
    refine get_0_0 (pc := 8) w_154 dX3_hashOfLog_8 ?_
    refine get_1_7 (pc := 11) w_65 dX3_hashOfLog_11 ?_
    refine J_icmp_ge (pc := 14) (tgt := 62) dX3_hashOfLog_14 (by decide) (fun c1 => ?_) (fun c1 => ?_)
    · replace h := ifp c1 h
      refine J_sub [1] rfl ?_
      exact hK62 _ h
    · replace h := ifn c1 h
      refine J_iload (pc := 17) dX3_hashOfLog_17 2 rfl ?_
      refine J_bipush (v := (60 : Int32)) (pc := 19) dX3_hashOfLog_19 (by decide) ?_
      refine J_icmp_ge (pc := 21) (tgt := 62) dX3_hashOfLog_21 (by decide) (fun c2 => ?_) (fun c2 => ?_)
      · replace h := ifp c2 h
        refine J_sub [1] rfl ?_
        exact hK62 _ h
      · replace h := ifn c2 h
        refine J_lload_n (pc := 24) dX3_hashOfLog_24 rfl 1 rfl ?_
        refine J_aload_n (pc := 25) dX3_hashOfLog_25 rfl 0 rfl ?_
        refine get_0_0 (pc := 26) w_154 dX3_hashOfLog_26 ?_
        refine get_1_3 (pc := 29) w_57 dX3_hashOfLog_29 ?_
        refine J_iload (pc := 32) dX3_hashOfLog_32 2 rfl ?_
        obtain ⟨v3, e4, hk5, h⟩ := ldi_e h
        refine J_iald (c := 5) (N := 60) (pc := 34) ja_5 (Nat.le_of_ble_eq_true rfl) hk5 dX3_hashOfLog_34 ?_
        refine J_topi e4 ?_
        refine J_i2l (pc := 35) dX3_hashOfLog_35 ?_
        refine J_callS (g := mi_X3_mix) (pc := 36) [.long x3, .long v3.toInt64] [] ms_X3_mix w_185 (k_X3_mix  x3 v3.toInt64 _) rfl rfl ⟨⟨Nat.le_of_ble_eq_true rfl, Nat.le_of_ble_eq_true rfl⟩, Nat.le_of_ble_eq_true rfl, Nat.le_of_ble_eq_true rfl⟩ (Nat.le_of_ble_eq_true rfl) dX3_hashOfLog_36 (Jk_v rfl rfl fun hok6 => ?_)
        obtain ⟨v7, e8, h⟩ := bnd_e h
        refine J_topl e8 ?_
        refine J_lstore_n (pc := 39) dX3_hashOfLog_39 rfl (Nat.le_of_ble_eq_true rfl) [1, 0, 2] rfl ?_
        refine J_lload_n (pc := 40) dX3_hashOfLog_40 rfl 1 rfl ?_
        refine J_aload_n (pc := 41) dX3_hashOfLog_41 rfl 0 rfl ?_
        refine get_0_0 (pc := 42) w_154 dX3_hashOfLog_42 ?_
        refine get_1_4 (pc := 45) w_59 dX3_hashOfLog_45 ?_
        refine J_iload (pc := 48) dX3_hashOfLog_48 2 rfl ?_
        obtain ⟨v9, e10, hk11, h⟩ := ldi_e h
        refine J_iald (c := 6) (N := 60) (pc := 50) ja_6 (Nat.le_of_ble_eq_true rfl) hk11 dX3_hashOfLog_50 ?_
        refine J_topi e10 ?_
        refine J_i2l (pc := 51) dX3_hashOfLog_51 ?_
        refine J_callS (g := mi_X3_mix) (pc := 52) [.long v7, .long v9.toInt64] [] ms_X3_mix w_185 (k_X3_mix  v7 v9.toInt64 _) rfl rfl ⟨⟨Nat.le_of_ble_eq_true rfl, Nat.le_of_ble_eq_true rfl⟩, Nat.le_of_ble_eq_true rfl, Nat.le_of_ble_eq_true rfl⟩ (Nat.le_of_ble_eq_true rfl) dX3_hashOfLog_52 (Jk_v rfl rfl fun hok12 => ?_)
        obtain ⟨v13, e14, h⟩ := bnd_e h
        refine J_topl e14 ?_
        refine J_lstore_n (pc := 55) dX3_hashOfLog_55 rfl (Nat.le_of_ble_eq_true rfl) [1, 0, 2] rfl ?_
        refine J_LS [(0, .ref 0), (3, .long v13), (5, .int x5)] [] rfl rfl ?_
        obtain ⟨v15, e16, h⟩ := bnd_e h
        refine J_iinc (v := v15) (pc := 56) dX3_hashOfLog_56 2 rfl (by rw [e16]; rfl) (Nat.le_of_ble_eq_true rfl) [1, 2, 0] rfl ?_
        refine J_goto (pc := 59) (tgt := 5) dX3_hashOfLog_59 (by decide) ?_
        exact ih _ _ h
set_option maxHeartbeats 4000000 in
set_option maxRecDepth 100000 in
theorem k_X3_hashOfLog {E : En} (a1 : Int64) (M : Wd) {r : Int64} (h : F_X3_hashOfLog a1 M = some r) : Con E mi_X3_hashOfLog [.ref 0, .long a1] M (.inl (some (.long r))) M := by
  unfold F_X3_hashOfLog at h
  refine Con.of (by decide) rfl (Nat.le_of_ble_eq_true rfl) (fun κ => ?_)
  show J κ E mi_X3_hashOfLog _ 0 0 [(0, .ref 0), (1, .long a1)] M 0 []
  refine J_lload_n (pc := 0) dX3_hashOfLog_0 rfl 1 rfl ?_
  refine J_lstore_n (pc := 1) dX3_hashOfLog_1 rfl (Nat.le_of_ble_eq_true rfl) [1, 2, 0] rfl ?_
  refine J_iconst (v := (0 : Int32)) (pc := 2) dX3_hashOfLog_2 (by decide) ?_
  refine J_istore (pc := 3) dX3_hashOfLog_3 (Nat.le_of_ble_eq_true rfl) [1, 2, 3, 0] rfl ?_
  refine J_LS [(0, .ref 0), (1, .long a1), (3, .long a1), (5, .int (0 : Int32))] [] rfl rfl ?_
  refine J_sub [0, 2, 3] rfl ?_
  refine kL_X3_hashOfLog_L5 _ _ (fun v17 h => ?_) fuelN _ _ h
  refine J_lload_n (pc := 62) dX3_hashOfLog_62 rfl 0 rfl ?_
  cases h
  exact J_lreturn dX3_hashOfLog_63 rfl rfl rfl rfl rfl
set_option maxHeartbeats 4000000 in
set_option maxRecDepth 100000 in
theorem k_X3_hashOfPark {E : En} (a1 : Int64) (M : Wd) {r : Int64} (h : F_X3_hashOfPark a1 M = some r) : Con E mi_X3_hashOfPark [.ref 0, .long a1] M (.inl (some (.long r))) M := by
  unfold F_X3_hashOfPark at h
  refine Con.of (by decide) rfl (Nat.le_of_ble_eq_true rfl) (fun κ => ?_)
  show J κ E mi_X3_hashOfPark _ 0 0 [(0, .ref 0), (1, .long a1)] M 0 []
  refine J_lload_n (pc := 0) dX3_hashOfPark_0 rfl 1 rfl ?_
  refine J_aload_n (pc := 1) dX3_hashOfPark_1 rfl 0 rfl ?_
  refine get_0_0 (pc := 2) w_154 dX3_hashOfPark_2 ?_
  refine get_1_5 (pc := 5) w_61 dX3_hashOfPark_5 ?_
  refine J_i2l (pc := 8) dX3_hashOfPark_8 ?_
  refine J_callS (g := mi_X3_mix) (pc := 9) [.long a1, .long (M.1 1 5).toInt64] [] ms_X3_mix w_185 (k_X3_mix  a1 (M.1 1 5).toInt64 _) rfl rfl ⟨⟨Nat.le_of_ble_eq_true rfl, Nat.le_of_ble_eq_true rfl⟩, Nat.le_of_ble_eq_true rfl, Nat.le_of_ble_eq_true rfl⟩ (Nat.le_of_ble_eq_true rfl) dX3_hashOfPark_9 (Jk_v rfl rfl fun hok1 => ?_)
  obtain ⟨v2, e3, h⟩ := bnd_e h
  refine J_topl e3 ?_
  refine J_lstore_n (pc := 12) dX3_hashOfPark_12 rfl (Nat.le_of_ble_eq_true rfl) [1, 2, 0] rfl ?_
  refine J_lload_n (pc := 13) dX3_hashOfPark_13 rfl 2 rfl ?_
  refine J_aload_n (pc := 14) dX3_hashOfPark_14 rfl 0 rfl ?_
  refine J_callV (g := mi_X3_walls) (ci := 3) (pc := 15) [] [.long v2] mv_X3_walls w_189 (k_X3_walls  _) rfl (by decide) rfl rfl rfl ⟨⟨Nat.le_of_ble_eq_true rfl, Nat.le_of_ble_eq_true rfl⟩, Nat.le_of_ble_eq_true rfl, Nat.le_of_ble_eq_true rfl⟩ (Nat.le_of_ble_eq_true rfl) dX3_hashOfPark_15 (Jk_v rfl rfl fun hok4 => ?_)
  refine J_i2l (pc := 18) dX3_hashOfPark_18 ?_
  refine J_callS (g := mi_X3_mix) (pc := 19) [.long v2, .long (F_X3_walls M).toInt64] [] ms_X3_mix w_185 (k_X3_mix  v2 (F_X3_walls M).toInt64 _) rfl rfl ⟨⟨Nat.le_of_ble_eq_true rfl, Nat.le_of_ble_eq_true rfl⟩, Nat.le_of_ble_eq_true rfl, Nat.le_of_ble_eq_true rfl⟩ (Nat.le_of_ble_eq_true rfl) dX3_hashOfPark_19 (Jk_v rfl rfl fun hok5 => ?_)
  obtain ⟨v6, e7, h⟩ := bnd_e h
  refine J_topl e7 ?_
  refine J_lstore_n (pc := 22) dX3_hashOfPark_22 rfl (Nat.le_of_ble_eq_true rfl) [1, 2, 0] rfl ?_
  refine J_LS [(0, .ref 0), (1, .long a1), (3, .long v6)] [] rfl rfl ?_
  refine J_lload_n (pc := 23) dX3_hashOfPark_23 rfl 2 rfl ?_
  refine J_aload_n (pc := 24) dX3_hashOfPark_24 rfl 0 rfl ?_
  obtain ⟨v8, hc9, h⟩ := obind_e h
  refine J_callV (g := mi_X3_freeCells) (ci := 3) (pc := 25) [] [.long v6] mv_X3_freeCells w_199 (k_X3_freeCells  _ hc9) rfl (by decide) rfl rfl rfl ⟨⟨Nat.le_of_ble_eq_true rfl, Nat.le_of_ble_eq_true rfl⟩, Nat.le_of_ble_eq_true rfl, Nat.le_of_ble_eq_true rfl⟩ (Nat.le_of_ble_eq_true rfl) dX3_hashOfPark_25 (Jk_v rfl rfl fun hok10 => ?_)
  refine J_i2l (pc := 28) dX3_hashOfPark_28 ?_
  refine J_callS (g := mi_X3_mix) (pc := 29) [.long v6, .long v8.toInt64] [] ms_X3_mix w_185 (k_X3_mix  v6 v8.toInt64 _) rfl rfl ⟨⟨Nat.le_of_ble_eq_true rfl, Nat.le_of_ble_eq_true rfl⟩, Nat.le_of_ble_eq_true rfl, Nat.le_of_ble_eq_true rfl⟩ (Nat.le_of_ble_eq_true rfl) dX3_hashOfPark_29 (Jk_v rfl rfl fun hok11 => ?_)
  obtain ⟨v12, e13, h⟩ := bnd_e h
  refine J_topl e13 ?_
  refine J_lstore_n (pc := 32) dX3_hashOfPark_32 rfl (Nat.le_of_ble_eq_true rfl) [1, 2, 0] rfl ?_
  refine J_lload_n (pc := 33) dX3_hashOfPark_33 rfl 2 rfl ?_
  refine J_aload_n (pc := 34) dX3_hashOfPark_34 rfl 0 rfl ?_
  refine J_callV (g := mi_X3_isOut) (ci := 3) (pc := 35) [] [.long v12] mv_X3_isOut w_211 (k_X3_isOut  _) rfl (by decide) rfl rfl rfl ⟨⟨Nat.le_of_ble_eq_true rfl, Nat.le_of_ble_eq_true rfl⟩, Nat.le_of_ble_eq_true rfl, Nat.le_of_ble_eq_true rfl⟩ (Nat.le_of_ble_eq_true rfl) dX3_hashOfPark_35 (Jk_v rfl rfl fun hok14 => ?_)
  obtain ⟨v15, e16, h⟩ := bnd_e h
  refine J_join [(0, .ref 0)] M 46 [.long v15, .long v12] ?_ (fun hJ => ?_)
  · refine J_callS (g := mi_X3_mix) (pc := 46) [.long v12, .long v15] [] ms_X3_mix w_185 (k_X3_mix  v12 v15 _) rfl rfl ⟨⟨Nat.le_of_ble_eq_true rfl, Nat.le_of_ble_eq_true rfl⟩, Nat.le_of_ble_eq_true rfl, Nat.le_of_ble_eq_true rfl⟩ (Nat.le_of_ble_eq_true rfl) dX3_hashOfPark_46 (Jk_v rfl rfl fun hok18 => ?_)
    obtain ⟨v19, e20, h⟩ := bnd_e h
    refine J_topl e20 ?_
    refine J_lstore_n (pc := 49) dX3_hashOfPark_49 rfl (Nat.le_of_ble_eq_true rfl) [1, 0] rfl ?_
    refine J_lload_n (pc := 50) dX3_hashOfPark_50 rfl 1 rfl ?_
    refine J_aload_n (pc := 51) dX3_hashOfPark_51 rfl 0 rfl ?_
    obtain ⟨v21, hc22, h⟩ := obind_e h
    refine J_callV (g := mi_X3_possibleSlides) (ci := 3) (pc := 52) [] [.long v19] mv_X3_possibleSlides w_219 (k_X3_possibleSlides  _ hc22) rfl (by decide) rfl rfl rfl ⟨⟨Nat.le_of_ble_eq_true rfl, Nat.le_of_ble_eq_true rfl⟩, Nat.le_of_ble_eq_true rfl, Nat.le_of_ble_eq_true rfl⟩ (Nat.le_of_ble_eq_true rfl) dX3_hashOfPark_52 (Jk_v rfl rfl fun hok23 => ?_)
    refine J_i2l (pc := 55) dX3_hashOfPark_55 ?_
    refine J_callS (g := mi_X3_mix) (pc := 56) [.long v19, .long v21.toInt64] [] ms_X3_mix w_185 (k_X3_mix  v19 v21.toInt64 _) rfl rfl ⟨⟨Nat.le_of_ble_eq_true rfl, Nat.le_of_ble_eq_true rfl⟩, Nat.le_of_ble_eq_true rfl, Nat.le_of_ble_eq_true rfl⟩ (Nat.le_of_ble_eq_true rfl) dX3_hashOfPark_56 (Jk_v rfl rfl fun hok24 => ?_)
    obtain ⟨v25, e26, h⟩ := bnd_e h
    refine J_topl e26 ?_
    refine J_lstore_n (pc := 59) dX3_hashOfPark_59 rfl (Nat.le_of_ble_eq_true rfl) [1, 0] rfl ?_
    refine J_LS [(0, .ref 0), (3, .long v25)] [] rfl rfl ?_
    refine J_lload_n (pc := 60) dX3_hashOfPark_60 rfl 1 rfl ?_
    refine J_aload_n (pc := 61) dX3_hashOfPark_61 rfl 0 rfl ?_
    refine get_0_0 (pc := 62) w_154 dX3_hashOfPark_62 ?_
    refine get_1_7 (pc := 65) w_65 dX3_hashOfPark_65 ?_
    refine J_i2l (pc := 68) dX3_hashOfPark_68 ?_
    refine J_callS (g := mi_X3_mix) (pc := 69) [.long v25, .long (M.1 1 7).toInt64] [] ms_X3_mix w_185 (k_X3_mix  v25 (M.1 1 7).toInt64 _) rfl rfl ⟨⟨Nat.le_of_ble_eq_true rfl, Nat.le_of_ble_eq_true rfl⟩, Nat.le_of_ble_eq_true rfl, Nat.le_of_ble_eq_true rfl⟩ (Nat.le_of_ble_eq_true rfl) dX3_hashOfPark_69 (Jk_v rfl rfl fun hok27 => ?_)
    obtain ⟨v28, e29, h⟩ := bnd_e h
    refine J_topl e29 ?_
    refine J_lstore_n (pc := 72) dX3_hashOfPark_72 rfl (Nat.le_of_ble_eq_true rfl) [1, 0] rfl ?_
    refine J_lload_n (pc := 73) dX3_hashOfPark_73 rfl 1 rfl ?_
    refine J_aload_n (pc := 74) dX3_hashOfPark_74 rfl 0 rfl ?_
    refine get_0_0 (pc := 75) w_154 dX3_hashOfPark_75 ?_
    obtain ⟨v30, hc31, h⟩ := obind_e h
    refine J_callV (g := mi_X1_fuelSlideBySlide) (ci := 1) (pc := 78) [] [.long v28] mv_X1_fuelSlideBySlide w_235 (k_X1_fuelSlideBySlide  _ hc31) rfl (by decide) rfl rfl rfl ⟨⟨Nat.le_of_ble_eq_true rfl, Nat.le_of_ble_eq_true rfl⟩, Nat.le_of_ble_eq_true rfl, Nat.le_of_ble_eq_true rfl⟩ (Nat.le_of_ble_eq_true rfl) dX3_hashOfPark_78 (Jk_v rfl rfl fun hok32 => ?_)
    refine J_i2l (pc := 81) dX3_hashOfPark_81 ?_
    refine J_callS (g := mi_X3_mix) (pc := 82) [.long v28, .long v30.toInt64] [] ms_X3_mix w_185 (k_X3_mix  v28 v30.toInt64 _) rfl rfl ⟨⟨Nat.le_of_ble_eq_true rfl, Nat.le_of_ble_eq_true rfl⟩, Nat.le_of_ble_eq_true rfl, Nat.le_of_ble_eq_true rfl⟩ (Nat.le_of_ble_eq_true rfl) dX3_hashOfPark_82 (Jk_v rfl rfl fun hok33 => ?_)
    obtain ⟨v34, e35, h⟩ := bnd_e h
    refine J_topl e35 ?_
    refine J_lstore_n (pc := 85) dX3_hashOfPark_85 rfl (Nat.le_of_ble_eq_true rfl) [1, 0] rfl ?_
    refine J_LS [(0, .ref 0), (3, .long v34)] [] rfl rfl ?_
    refine J_lload_n (pc := 86) dX3_hashOfPark_86 rfl 1 rfl ?_
    refine J_aload_n (pc := 87) dX3_hashOfPark_87 rfl 0 rfl ?_
    refine get_0_0 (pc := 88) w_154 dX3_hashOfPark_88 ?_
    obtain ⟨v36, hc37, h⟩ := obind_e h
    refine J_callV (g := mi_X1_fuelCarByCar) (ci := 1) (pc := 91) [] [.long v34] mv_X1_fuelCarByCar w_242 (k_X1_fuelCarByCar  _ hc37) rfl (by decide) rfl rfl rfl ⟨⟨Nat.le_of_ble_eq_true rfl, Nat.le_of_ble_eq_true rfl⟩, Nat.le_of_ble_eq_true rfl, Nat.le_of_ble_eq_true rfl⟩ (Nat.le_of_ble_eq_true rfl) dX3_hashOfPark_91 (Jk_v rfl rfl fun hok38 => ?_)
    refine J_i2l (pc := 94) dX3_hashOfPark_94 ?_
    refine J_callS (g := mi_X3_mix) (pc := 95) [.long v34, .long v36.toInt64] [] ms_X3_mix w_185 (k_X3_mix  v34 v36.toInt64 _) rfl rfl ⟨⟨Nat.le_of_ble_eq_true rfl, Nat.le_of_ble_eq_true rfl⟩, Nat.le_of_ble_eq_true rfl, Nat.le_of_ble_eq_true rfl⟩ (Nat.le_of_ble_eq_true rfl) dX3_hashOfPark_95 (Jk_v rfl rfl fun hok39 => ?_)
    cases h
    exact J_lreturn dX3_hashOfPark_98 rfl rfl rfl rfl rfl
  · refine J_if_eq (pc := 38) (tgt := 45) dX3_hashOfPark_38 (by decide) (fun c17 => ?_) (fun c17 => ?_)
    · refine J_lconst (v := (0 : Int64)) (pc := 45) dX3_hashOfPark_45 (by decide) ?_
      refine J_sub [0] rfl ?_
      refine J_topl (y := v15) (by rw [e16, if_pos c17]) ?_
      exact hJ
    · refine J_lconst (v := (1 : Int64)) (pc := 41) dX3_hashOfPark_41 (by decide) ?_
      refine J_goto (pc := 42) (tgt := 46) dX3_hashOfPark_42 (by decide) ?_
      refine J_sub [0] rfl ?_
      refine J_topl (y := v15) (by rw [e16, if_neg c17]) ?_
      exact hJ
set_option maxHeartbeats 4000000 in
set_option maxRecDepth 100000 in
theorem k_X3_hashOfPlans {E : En} (a1 : Int64) (M : Wd) {r : Int64} {M' : Wd} (h : F_X3_hashOfPlans a1 M = some (r, M')) : Con E mi_X3_hashOfPlans [.ref 0, .long a1] M (.inl (some (.long r))) M' := by
  unfold F_X3_hashOfPlans at h
  refine Con.of (by decide) rfl (Nat.le_of_ble_eq_true rfl) (fun κ => ?_)
  show J κ E mi_X3_hashOfPlans _ 0 0 [(0, .ref 0), (1, .long a1)] M 0 []
  refine J_lload_n (pc := 0) dX3_hashOfPlans_0 rfl 1 rfl ?_
  refine J_aload_n (pc := 1) dX3_hashOfPlans_1 rfl 0 rfl ?_
  refine get_0_3 (pc := 2) w_157 dX3_hashOfPlans_2 ?_
  obtain ⟨v1, M2, hc3, h⟩ := obind2_e h
  refine J_callV (g := mi_X0_slidesFromStart) (ci := 0) (pc := 5) [] [.long a1] mv_X0_slidesFromStart w_276 (k_X0_slidesFromStart  _ hc3) rfl (by decide) rfl rfl rfl ⟨⟨Nat.le_of_ble_eq_true rfl, Nat.le_of_ble_eq_true rfl⟩, Nat.le_of_ble_eq_true rfl, Nat.le_of_ble_eq_true rfl⟩ (Nat.le_of_ble_eq_true rfl) dX3_hashOfPlans_5 (Jk_v rfl rfl fun hok4 => ?_)
  refine J_i2l (pc := 8) dX3_hashOfPlans_8 ?_
  refine J_callS (g := mi_X3_mix) (pc := 9) [.long a1, .long v1.toInt64] [] ms_X3_mix w_185 (k_X3_mix  a1 v1.toInt64 _) rfl rfl ⟨⟨Nat.le_of_ble_eq_true rfl, Nat.le_of_ble_eq_true rfl⟩, Nat.le_of_ble_eq_true rfl, Nat.le_of_ble_eq_true rfl⟩ (Nat.le_of_ble_eq_true rfl) dX3_hashOfPlans_9 (Jk_v rfl rfl fun hok5 => ?_)
  obtain ⟨v6, e7, h⟩ := bnd_e h
  refine J_topl e7 ?_
  refine J_lstore_n (pc := 12) dX3_hashOfPlans_12 rfl (Nat.le_of_ble_eq_true rfl) [1, 2, 0] rfl ?_
  refine J_lload_n (pc := 13) dX3_hashOfPlans_13 rfl 2 rfl ?_
  refine J_aload_n (pc := 14) dX3_hashOfPlans_14 rfl 0 rfl ?_
  refine get_0_3 (pc := 15) w_157 dX3_hashOfPlans_15 ?_
  obtain ⟨v8, M9, hc10, h⟩ := obind2_e h
  refine J_callV (g := mi_X0_slidesFromEnds) (ci := 0) (pc := 18) [] [.long v6] mv_X0_slidesFromEnds w_320 (k_X0_slidesFromEnds  _ hc10) rfl (by decide) rfl rfl rfl ⟨⟨Nat.le_of_ble_eq_true rfl, Nat.le_of_ble_eq_true rfl⟩, Nat.le_of_ble_eq_true rfl, Nat.le_of_ble_eq_true rfl⟩ (Nat.le_of_ble_eq_true rfl) dX3_hashOfPlans_18 (Jk_v rfl rfl fun hok11 => ?_)
  refine J_i2l (pc := 21) dX3_hashOfPlans_21 ?_
  refine J_callS (g := mi_X3_mix) (pc := 22) [.long v6, .long v8.toInt64] [] ms_X3_mix w_185 (k_X3_mix  v6 v8.toInt64 _) rfl rfl ⟨⟨Nat.le_of_ble_eq_true rfl, Nat.le_of_ble_eq_true rfl⟩, Nat.le_of_ble_eq_true rfl, Nat.le_of_ble_eq_true rfl⟩ (Nat.le_of_ble_eq_true rfl) dX3_hashOfPlans_22 (Jk_v rfl rfl fun hok12 => ?_)
  obtain ⟨v13, e14, h⟩ := bnd_e h
  refine J_topl e14 ?_
  refine J_lstore_n (pc := 25) dX3_hashOfPlans_25 rfl (Nat.le_of_ble_eq_true rfl) [1, 2, 0] rfl ?_
  refine J_LS [(0, .ref 0), (1, .long a1), (3, .long v13)] [] rfl rfl ?_
  refine J_lload_n (pc := 26) dX3_hashOfPlans_26 rfl 2 rfl ?_
  refine J_aload_n (pc := 27) dX3_hashOfPlans_27 rfl 0 rfl ?_
  refine get_0_3 (pc := 28) w_157 dX3_hashOfPlans_28 ?_
  obtain ⟨v15, M16, hc17, h⟩ := obind2_e h
  refine J_callV (g := mi_X0_stepsFromStart) (ci := 0) (pc := 31) [] [.long v13] mv_X0_stepsFromStart w_324 (k_X0_stepsFromStart  _ hc17) rfl (by decide) rfl rfl rfl ⟨⟨Nat.le_of_ble_eq_true rfl, Nat.le_of_ble_eq_true rfl⟩, Nat.le_of_ble_eq_true rfl, Nat.le_of_ble_eq_true rfl⟩ (Nat.le_of_ble_eq_true rfl) dX3_hashOfPlans_31 (Jk_v rfl rfl fun hok18 => ?_)
  refine J_i2l (pc := 34) dX3_hashOfPlans_34 ?_
  refine J_callS (g := mi_X3_mix) (pc := 35) [.long v13, .long v15.toInt64] [] ms_X3_mix w_185 (k_X3_mix  v13 v15.toInt64 _) rfl rfl ⟨⟨Nat.le_of_ble_eq_true rfl, Nat.le_of_ble_eq_true rfl⟩, Nat.le_of_ble_eq_true rfl, Nat.le_of_ble_eq_true rfl⟩ (Nat.le_of_ble_eq_true rfl) dX3_hashOfPlans_35 (Jk_v rfl rfl fun hok19 => ?_)
  obtain ⟨v20, e21, h⟩ := bnd_e h
  refine J_topl e21 ?_
  refine J_lstore_n (pc := 38) dX3_hashOfPlans_38 rfl (Nat.le_of_ble_eq_true rfl) [1, 2, 0] rfl ?_
  refine J_lload_n (pc := 39) dX3_hashOfPlans_39 rfl 2 rfl ?_
  refine J_aload_n (pc := 40) dX3_hashOfPlans_40 rfl 0 rfl ?_
  refine get_0_3 (pc := 41) w_157 dX3_hashOfPlans_41 ?_
  obtain ⟨v22, M23, hc24, h⟩ := obind2_e h
  refine J_callV (g := mi_X0_fuelByBuckets) (ci := 0) (pc := 44) [] [.long v20] mv_X0_fuelByBuckets w_328 (k_X0_fuelByBuckets  _ hc24) rfl (by decide) rfl rfl rfl ⟨⟨Nat.le_of_ble_eq_true rfl, Nat.le_of_ble_eq_true rfl⟩, Nat.le_of_ble_eq_true rfl, Nat.le_of_ble_eq_true rfl⟩ (Nat.le_of_ble_eq_true rfl) dX3_hashOfPlans_44 (Jk_v rfl rfl fun hok25 => ?_)
  refine J_i2l (pc := 47) dX3_hashOfPlans_47 ?_
  refine J_callS (g := mi_X3_mix) (pc := 48) [.long v20, .long v22.toInt64] [] ms_X3_mix w_185 (k_X3_mix  v20 v22.toInt64 _) rfl rfl ⟨⟨Nat.le_of_ble_eq_true rfl, Nat.le_of_ble_eq_true rfl⟩, Nat.le_of_ble_eq_true rfl, Nat.le_of_ble_eq_true rfl⟩ (Nat.le_of_ble_eq_true rfl) dX3_hashOfPlans_48 (Jk_v rfl rfl fun hok26 => ?_)
  obtain ⟨v27, e28, h⟩ := bnd_e h
  refine J_topl e28 ?_
  refine J_lstore_n (pc := 51) dX3_hashOfPlans_51 rfl (Nat.le_of_ble_eq_true rfl) [1, 2, 0] rfl ?_
  refine J_LS [(0, .ref 0), (1, .long a1), (3, .long v27)] [] rfl rfl ?_
  refine J_lload_n (pc := 52) dX3_hashOfPlans_52 rfl 2 rfl ?_
  refine J_aload_n (pc := 53) dX3_hashOfPlans_53 rfl 0 rfl ?_
  refine get_0_3 (pc := 54) w_157 dX3_hashOfPlans_54 ?_
  obtain ⟨v29, M30, hc31, h⟩ := obind2_e h
  refine J_callV (g := mi_X0_fuelByRounds) (ci := 0) (pc := 57) [] [.long v27] mv_X0_fuelByRounds w_356 (k_X0_fuelByRounds  _ hc31) rfl (by decide) rfl rfl rfl ⟨⟨Nat.le_of_ble_eq_true rfl, Nat.le_of_ble_eq_true rfl⟩, Nat.le_of_ble_eq_true rfl, Nat.le_of_ble_eq_true rfl⟩ (Nat.le_of_ble_eq_true rfl) dX3_hashOfPlans_57 (Jk_v rfl rfl fun hok32 => ?_)
  refine J_i2l (pc := 60) dX3_hashOfPlans_60 ?_
  refine J_callS (g := mi_X3_mix) (pc := 61) [.long v27, .long v29.toInt64] [] ms_X3_mix w_185 (k_X3_mix  v27 v29.toInt64 _) rfl rfl ⟨⟨Nat.le_of_ble_eq_true rfl, Nat.le_of_ble_eq_true rfl⟩, Nat.le_of_ble_eq_true rfl, Nat.le_of_ble_eq_true rfl⟩ (Nat.le_of_ble_eq_true rfl) dX3_hashOfPlans_61 (Jk_v rfl rfl fun hok33 => ?_)
  cases h
  exact J_lreturn dX3_hashOfPlans_64 rfl rfl rfl rfl rfl
set_option maxHeartbeats 4000000 in
set_option maxRecDepth 100000 in
theorem kL_X3_hashOfText_L16 {κ : Kx} {E : En} {Q : State → Prop} {ρ : Type} {r : ρ} (M : Wd) (K49 : Int64 → Option ρ) (hK49 : ∀ (x3 : Int64), K49 x3 = some r → J κ E mi_X3_hashOfText Q 0 0 [(3, .long x3)] M 49 []) : ∀ (m : Nat) (x3 : Int64) (x5 : Int32), F_X3_hashOfText_L16 M K49 m x3 x5 = some r → J κ E mi_X3_hashOfText Q 0 0 [(0, .ref 0), (3, .long x3), (5, .int x5)] M 16 [] := by
  intro m
  induction m with
  | zero => intro x3 x5 h; exact (nomatch (show (none : Option ρ) = some r from h))
  | succ m ih =>
    intro x3 x5 h
    unfold F_X3_hashOfText_L16 at h
    refine J_iload (pc := 16) dX3_hashOfText_16 2 rfl ?_
    refine J_aload_n (pc := 18) dX3_hashOfText_18 rfl 0 rfl ?_
    refine get_0_4 (pc := 19) w_158 dX3_hashOfText_19 ?_
    refine get_51_1 (pc := 22) w_148 dX3_hashOfText_22 ?_
    refine J_icmp_ge (pc := 25) (tgt := 49) dX3_hashOfText_25 (by decide) (fun c4 => ?_) (fun c4 => ?_)
    · replace h := ifp c4 h
      refine J_sub [1] rfl ?_
      exact hK49 _ h
    · replace h := ifn c4 h
      refine J_lload_n (pc := 28) dX3_hashOfText_28 rfl 1 rfl ?_
      refine J_aload_n (pc := 29) dX3_hashOfText_29 rfl 0 rfl ?_
      refine get_0_4 (pc := 30) w_158 dX3_hashOfText_30 ?_
      refine J_iload (pc := 33) dX3_hashOfText_33 2 rfl ?_
      obtain ⟨v5, hc6, h⟩ := obind_e h
      refine J_callV (g := mi_X2_codeAt) (ci := 2) (pc := 35) [.int x5] [.long x3] mv_X2_codeAt w_415 (k_X2_codeAt  x5 _ hc6) rfl (by decide) rfl rfl rfl ⟨⟨Nat.le_of_ble_eq_true rfl, Nat.le_of_ble_eq_true rfl⟩, Nat.le_of_ble_eq_true rfl, Nat.le_of_ble_eq_true rfl⟩ (Nat.le_of_ble_eq_true rfl) dX3_hashOfText_35 (Jk_v rfl rfl fun hok7 => ?_)
      refine J_i2l (pc := 38) dX3_hashOfText_38 ?_
      refine J_callS (g := mi_X3_mix) (pc := 39) [.long x3, .long v5.toInt64] [] ms_X3_mix w_185 (k_X3_mix  x3 v5.toInt64 _) rfl rfl ⟨⟨Nat.le_of_ble_eq_true rfl, Nat.le_of_ble_eq_true rfl⟩, Nat.le_of_ble_eq_true rfl, Nat.le_of_ble_eq_true rfl⟩ (Nat.le_of_ble_eq_true rfl) dX3_hashOfText_39 (Jk_v rfl rfl fun hok8 => ?_)
      obtain ⟨v9, e10, h⟩ := bnd_e h
      refine J_topl e10 ?_
      refine J_lstore_n (pc := 42) dX3_hashOfText_42 rfl (Nat.le_of_ble_eq_true rfl) [1, 0, 2] rfl ?_
      obtain ⟨v11, e12, h⟩ := bnd_e h
      refine J_iinc (v := v11) (pc := 43) dX3_hashOfText_43 2 rfl (by rw [e12]; rfl) (Nat.le_of_ble_eq_true rfl) [1, 2, 0] rfl ?_
      refine J_LS [(0, .ref 0), (3, .long v9), (5, .int v11)] [] rfl rfl ?_
      refine J_goto (pc := 46) (tgt := 16) dX3_hashOfText_46 (by decide) ?_
      exact ih _ _ h
set_option maxHeartbeats 4000000 in
set_option maxRecDepth 100000 in
theorem k_X3_hashOfText {E : En} (a1 : Int64) (M : Wd) {r : Int64} (h : F_X3_hashOfText a1 M = some r) : Con E mi_X3_hashOfText [.ref 0, .long a1] M (.inl (some (.long r))) M := by
  unfold F_X3_hashOfText at h
  refine Con.of (by decide) rfl (Nat.le_of_ble_eq_true rfl) (fun κ => ?_)
  show J κ E mi_X3_hashOfText _ 0 0 [(0, .ref 0), (1, .long a1)] M 0 []
  refine J_lload_n (pc := 0) dX3_hashOfText_0 rfl 1 rfl ?_
  refine J_aload_n (pc := 1) dX3_hashOfText_1 rfl 0 rfl ?_
  refine get_0_4 (pc := 2) w_158 dX3_hashOfText_2 ?_
  refine get_51_1 (pc := 5) w_148 dX3_hashOfText_5 ?_
  refine J_i2l (pc := 8) dX3_hashOfText_8 ?_
  refine J_callS (g := mi_X3_mix) (pc := 9) [.long a1, .long (M.1 51 1).toInt64] [] ms_X3_mix w_185 (k_X3_mix  a1 (M.1 51 1).toInt64 _) rfl rfl ⟨⟨Nat.le_of_ble_eq_true rfl, Nat.le_of_ble_eq_true rfl⟩, Nat.le_of_ble_eq_true rfl, Nat.le_of_ble_eq_true rfl⟩ (Nat.le_of_ble_eq_true rfl) dX3_hashOfText_9 (Jk_v rfl rfl fun hok1 => ?_)
  obtain ⟨v2, e3, h⟩ := bnd_e h
  refine J_topl e3 ?_
  refine J_lstore_n (pc := 12) dX3_hashOfText_12 rfl (Nat.le_of_ble_eq_true rfl) [1, 2, 0] rfl ?_
  refine J_iconst (v := (0 : Int32)) (pc := 13) dX3_hashOfText_13 (by decide) ?_
  refine J_istore (pc := 14) dX3_hashOfText_14 (Nat.le_of_ble_eq_true rfl) [1, 2, 3, 0] rfl ?_
  refine J_LS [(0, .ref 0), (1, .long a1), (3, .long v2), (5, .int (0 : Int32))] [] rfl rfl ?_
  refine J_sub [0, 2, 3] rfl ?_
  refine kL_X3_hashOfText_L16 _ _ (fun v13 h => ?_) fuelN _ _ h
  refine J_lload_n (pc := 49) dX3_hashOfText_49 rfl 0 rfl ?_
  cases h
  exact J_lreturn dX3_hashOfText_50 rfl rfl rfl rfl rfl
set_option maxHeartbeats 4000000 in
set_option maxRecDepth 100000 in
theorem k_X3_share {E : En} (a0 : Int32) (a1 : Int32) (M : Wd) {r : UInt64} (h : F_X3_share a0 a1 = some r) : Con E mi_X3_share [.int a0, .int a1] M (.inl (some (.double r))) M := by
  unfold F_X3_share at h
  refine Con.of (by decide) rfl (Nat.le_of_ble_eq_true rfl) (fun κ => ?_)
  show J κ E mi_X3_share _ 0 0 [(0, .int a0), (1, .int a1)] M 0 []
  refine J_iload_n (pc := 0) dX3_share_0 rfl 1 rfl ?_
  refine J_if_le (pc := 1) (tgt := 12) dX3_share_1 (by decide) (fun c1 => ?_) (fun c1 => ?_)
  · replace h := ifp c1 h
    refine J_dconst0 (pc := 12) dX3_share_12 ?_
    cases h
    exact J_dreturn dX3_share_13 rfl rfl rfl rfl rfl
  · replace h := ifn c1 h
    refine J_iload_n (pc := 4) dX3_share_4 rfl 0 rfl ?_
    refine J_i2d (pc := 5) dX3_share_5 ?_
    refine J_iload_n (pc := 6) dX3_share_6 rfl 1 rfl ?_
    refine J_i2d (pc := 7) dX3_share_7 ?_
    obtain ⟨hn2, h⟩ := grd_e h
    refine J_ddiv (pc := 8) dX3_share_8 hn2 ?_
    refine J_goto (pc := 9) (tgt := 13) dX3_share_9 (by decide) ?_
    cases h
    exact J_dreturn dX3_share_13 rfl rfl rfl rfl rfl
set_option maxHeartbeats 4000000 in
set_option maxRecDepth 100000 in
theorem k_X3_digest {E : En} (M : Wd) {r : Int64} {M' : Wd} (h : F_X3_digest M = some (r, M')) : Con E mi_X3_digest [.ref 0] M (.inl (some (.long r))) M' := by
  unfold F_X3_digest at h
  refine Con.of (by decide) rfl (Nat.le_of_ble_eq_true rfl) (fun κ => ?_)
  show J κ E mi_X3_digest _ 0 0 [(0, .ref 0)] M 0 []
  refine J_aload_n (pc := 0) dX3_digest_0 rfl 0 rfl ?_
  refine J_ldc2 (pc := 1) w_180 dX3_digest_1 ?_
  obtain ⟨v1, hc2, h⟩ := obind_e h
  refine J_callV (g := mi_X3_hashOfPark) (ci := 3) (pc := 4) [.long (4507 : Int64)] [] mv_X3_hashOfPark w_181 (k_X3_hashOfPark  (4507 : Int64) _ hc2) rfl (by decide) rfl rfl rfl ⟨⟨Nat.le_of_ble_eq_true rfl, Nat.le_of_ble_eq_true rfl⟩, Nat.le_of_ble_eq_true rfl, Nat.le_of_ble_eq_true rfl⟩ (Nat.le_of_ble_eq_true rfl) dX3_digest_4 (Jk_v rfl rfl fun hok3 => ?_)
  refine J_lstore_n (pc := 7) dX3_digest_7 rfl (Nat.le_of_ble_eq_true rfl) [1, 0] rfl ?_
  refine J_aload_n (pc := 8) dX3_digest_8 rfl 0 rfl ?_
  obtain ⟨M4, hc5, h⟩ := obind_e h
  refine J_callV (g := mi_X3_exploreNow) (ci := 3) (pc := 9) [] [] mv_X3_exploreNow w_250 (k_X3_exploreNow _ hc5) rfl (by decide) rfl rfl rfl ⟨⟨Nat.le_of_ble_eq_true rfl, Nat.le_of_ble_eq_true rfl⟩, Nat.le_of_ble_eq_true rfl, Nat.le_of_ble_eq_true rfl⟩ (Nat.le_of_ble_eq_true rfl) dX3_digest_9 (Jk_0 rfl rfl ?_)
  refine J_aload_n (pc := 12) dX3_digest_12 rfl 0 rfl ?_
  refine J_lload_n (pc := 13) dX3_digest_13 rfl 1 rfl ?_
  obtain ⟨v6, M7, hc8, h⟩ := obind2_e h
  refine J_callV (g := mi_X3_hashOfPlans) (ci := 3) (pc := 14) [.long v1] [] mv_X3_hashOfPlans w_272 (k_X3_hashOfPlans  v1 _ hc8) rfl (by decide) rfl rfl rfl ⟨⟨Nat.le_of_ble_eq_true rfl, Nat.le_of_ble_eq_true rfl⟩, Nat.le_of_ble_eq_true rfl, Nat.le_of_ble_eq_true rfl⟩ (Nat.le_of_ble_eq_true rfl) dX3_digest_14 (Jk_v rfl rfl fun hok9 => ?_)
  refine J_lstore_n (pc := 17) dX3_digest_17 rfl (Nat.le_of_ble_eq_true rfl) [1, 0] rfl ?_
  refine J_LS [(0, .ref 0), (1, .long v6)] [] rfl rfl ?_
  refine J_aload_n (pc := 18) dX3_digest_18 rfl 0 rfl ?_
  refine get_0_3 (pc := 19) w_157 dX3_digest_19 ?_
  refine J_iconst (v := (3 : Int32)) (pc := 22) dX3_digest_22 (by decide) ?_
  obtain ⟨M10, hc11, h⟩ := obind_e h
  refine J_callV (g := mi_X0_spreadFromStart) (ci := 0) (pc := 23) [.int (3 : Int32)] [] mv_X0_spreadFromStart w_364 (k_X0_spreadFromStart (3 : Int32) _ hc11) rfl (by decide) rfl rfl rfl ⟨⟨Nat.le_of_ble_eq_true rfl, Nat.le_of_ble_eq_true rfl⟩, Nat.le_of_ble_eq_true rfl, Nat.le_of_ble_eq_true rfl⟩ (Nat.le_of_ble_eq_true rfl) dX3_digest_23 (Jk_0 rfl rfl ?_)
  refine J_aload_n (pc := 26) dX3_digest_26 rfl 0 rfl ?_
  refine J_lload_n (pc := 27) dX3_digest_27 rfl 1 rfl ?_
  obtain ⟨v12, hc13, h⟩ := obind_e h
  refine J_callV (g := mi_X3_hashOfArrangements) (ci := 3) (pc := 28) [.long v6] [] mv_X3_hashOfArrangements w_365 (k_X3_hashOfArrangements  v6 _ hc13) rfl (by decide) rfl rfl rfl ⟨⟨Nat.le_of_ble_eq_true rfl, Nat.le_of_ble_eq_true rfl⟩, Nat.le_of_ble_eq_true rfl, Nat.le_of_ble_eq_true rfl⟩ (Nat.le_of_ble_eq_true rfl) dX3_digest_28 (Jk_v rfl rfl fun hok14 => ?_)
  refine J_lstore_n (pc := 31) dX3_digest_31 rfl (Nat.le_of_ble_eq_true rfl) [1, 0] rfl ?_
  refine J_lload_n (pc := 32) dX3_digest_32 rfl 1 rfl ?_
  refine J_aload_n (pc := 33) dX3_digest_33 rfl 0 rfl ?_
  refine get_0_5 (pc := 34) w_159 dX3_digest_34 ?_
  refine J_i2l (pc := 37) dX3_digest_37 ?_
  refine J_callS (g := mi_X3_mix) (pc := 38) [.long v12, .long (M10.1 0 5).toInt64] [] ms_X3_mix w_185 (k_X3_mix  v12 (M10.1 0 5).toInt64 _) rfl rfl ⟨⟨Nat.le_of_ble_eq_true rfl, Nat.le_of_ble_eq_true rfl⟩, Nat.le_of_ble_eq_true rfl, Nat.le_of_ble_eq_true rfl⟩ (Nat.le_of_ble_eq_true rfl) dX3_digest_38 (Jk_v rfl rfl fun hok15 => ?_)
  obtain ⟨v16, e17, h⟩ := bnd_e h
  refine J_topl e17 ?_
  refine J_lstore_n (pc := 41) dX3_digest_41 rfl (Nat.le_of_ble_eq_true rfl) [1, 0] rfl ?_
  refine J_LS [(0, .ref 0), (1, .long v16)] [] rfl rfl ?_
  refine J_aload_n (pc := 42) dX3_digest_42 rfl 0 rfl ?_
  refine J_lload_n (pc := 43) dX3_digest_43 rfl 1 rfl ?_
  obtain ⟨v18, hc19, h⟩ := obind_e h
  refine J_callV (g := mi_X3_hashOfCells) (ci := 3) (pc := 44) [.long v16] [] mv_X3_hashOfCells w_381 (k_X3_hashOfCells  v16 _ hc19) rfl (by decide) rfl rfl rfl ⟨⟨Nat.le_of_ble_eq_true rfl, Nat.le_of_ble_eq_true rfl⟩, Nat.le_of_ble_eq_true rfl, Nat.le_of_ble_eq_true rfl⟩ (Nat.le_of_ble_eq_true rfl) dX3_digest_44 (Jk_v rfl rfl fun hok20 => ?_)
  refine J_lstore_n (pc := 47) dX3_digest_47 rfl (Nat.le_of_ble_eq_true rfl) [1, 0] rfl ?_
  refine J_aload_n (pc := 48) dX3_digest_48 rfl 0 rfl ?_
  refine J_lload_n (pc := 49) dX3_digest_49 rfl 1 rfl ?_
  obtain ⟨v21, hc22, h⟩ := obind_e h
  refine J_callV (g := mi_X3_hashOfCars) (ci := 3) (pc := 50) [.long v18] [] mv_X3_hashOfCars w_393 (k_X3_hashOfCars  v18 _ hc22) rfl (by decide) rfl rfl rfl ⟨⟨Nat.le_of_ble_eq_true rfl, Nat.le_of_ble_eq_true rfl⟩, Nat.le_of_ble_eq_true rfl, Nat.le_of_ble_eq_true rfl⟩ (Nat.le_of_ble_eq_true rfl) dX3_digest_50 (Jk_v rfl rfl fun hok23 => ?_)
  refine J_lstore_n (pc := 53) dX3_digest_53 rfl (Nat.le_of_ble_eq_true rfl) [1, 0] rfl ?_
  refine J_LS [(0, .ref 0), (1, .long v21)] [] rfl rfl ?_
  refine J_aload_n (pc := 54) dX3_digest_54 rfl 0 rfl ?_
  refine J_lload_n (pc := 55) dX3_digest_55 rfl 1 rfl ?_
  obtain ⟨v24, hc25, h⟩ := obind_e h
  refine J_callV (g := mi_X3_hashOfLog) (ci := 3) (pc := 56) [.long v21] [] mv_X3_hashOfLog w_398 (k_X3_hashOfLog  v21 _ hc25) rfl (by decide) rfl rfl rfl ⟨⟨Nat.le_of_ble_eq_true rfl, Nat.le_of_ble_eq_true rfl⟩, Nat.le_of_ble_eq_true rfl, Nat.le_of_ble_eq_true rfl⟩ (Nat.le_of_ble_eq_true rfl) dX3_digest_56 (Jk_v rfl rfl fun hok26 => ?_)
  refine J_lstore_n (pc := 59) dX3_digest_59 rfl (Nat.le_of_ble_eq_true rfl) [1, 0] rfl ?_
  refine J_lload_n (pc := 60) dX3_digest_60 rfl 1 rfl ?_
  refine J_aload_n (pc := 61) dX3_digest_61 rfl 0 rfl ?_
  refine get_0_0 (pc := 62) w_154 dX3_digest_62 ?_
  refine get_1_8 (pc := 65) w_67 dX3_digest_65 ?_
  obtain ⟨v27, e28, h⟩ := bnd_e h
  refine J_join [(0, .ref 0)] M10 76 [.long v27, .long v24] ?_ (fun hJ => ?_)
  · refine J_callS (g := mi_X3_mix) (pc := 76) [.long v24, .long v27] [] ms_X3_mix w_185 (k_X3_mix  v24 v27 _) rfl rfl ⟨⟨Nat.le_of_ble_eq_true rfl, Nat.le_of_ble_eq_true rfl⟩, Nat.le_of_ble_eq_true rfl, Nat.le_of_ble_eq_true rfl⟩ (Nat.le_of_ble_eq_true rfl) dX3_digest_76 (Jk_v rfl rfl fun hok30 => ?_)
    obtain ⟨v31, e32, h⟩ := bnd_e h
    refine J_topl e32 ?_
    refine J_lstore_n (pc := 79) dX3_digest_79 rfl (Nat.le_of_ble_eq_true rfl) [1, 0] rfl ?_
    refine J_aload_n (pc := 80) dX3_digest_80 rfl 0 rfl ?_
    refine get_0_0 (pc := 81) w_154 dX3_digest_81 ?_
    refine get_1_8 (pc := 84) w_67 dX3_digest_84 ?_
    obtain ⟨v33, e34, h⟩ := bnd_e h
    refine J_join [(0, .ref 0), (1, .long v33)] M10 103 [] ?_ (fun hJ => ?_)
    · refine J_lload_n (pc := 103) dX3_digest_103 rfl 1 rfl ?_
      refine J_aload_n (pc := 104) dX3_digest_104 rfl 0 rfl ?_
      refine get_0_3 (pc := 105) w_157 dX3_digest_105 ?_
      refine get_44_9 (pc := 108) w_110 dX3_digest_108 ?_
      refine J_aload_n (pc := 111) dX3_digest_111 rfl 0 rfl ?_
      refine get_0_3 (pc := 112) w_157 dX3_digest_112 ?_
      obtain ⟨v37, hc38, h⟩ := obind_e h
      refine J_callV (g := mi_X0_allArrangements) (ci := 0) (pc := 115) [] [.int (M10.1 44 9), .long v33] mv_X0_allArrangements w_377 (k_X0_allArrangements  _ hc38) rfl (by decide) rfl rfl rfl ⟨⟨Nat.le_of_ble_eq_true rfl, Nat.le_of_ble_eq_true rfl⟩, Nat.le_of_ble_eq_true rfl, Nat.le_of_ble_eq_true rfl⟩ (Nat.le_of_ble_eq_true rfl) dX3_digest_115 (Jk_v rfl rfl fun hok39 => ?_)
      obtain ⟨v40, hc41, h⟩ := obind_e h
      refine J_callS (g := mi_X3_share) (pc := 118) [.int (M10.1 44 9), .int v37] [.long v33] ms_X3_share w_402 (k_X3_share  (M10.1 44 9) v37 _ hc41) rfl rfl ⟨⟨Nat.le_of_ble_eq_true rfl, Nat.le_of_ble_eq_true rfl⟩, Nat.le_of_ble_eq_true rfl, Nat.le_of_ble_eq_true rfl⟩ (Nat.le_of_ble_eq_true rfl) dX3_digest_118 (Jk_v rfl rfl fun hok42 => ?_)
      obtain ⟨v43, hc44, h⟩ := obind_e h
      refine J_callS (g := mi_X3_bitsOf) (pc := 121) [.double v40] [.long v33] ms_X3_bitsOf w_405 (k_X3_bitsOf  v40 _ hc44) rfl rfl ⟨⟨Nat.le_of_ble_eq_true rfl, Nat.le_of_ble_eq_true rfl⟩, Nat.le_of_ble_eq_true rfl, Nat.le_of_ble_eq_true rfl⟩ (Nat.le_of_ble_eq_true rfl) dX3_digest_121 (Jk_v rfl rfl fun hok45 => ?_)
      refine J_callS (g := mi_X3_mix) (pc := 124) [.long v33, .long v43] [] ms_X3_mix w_185 (k_X3_mix  v33 v43 _) rfl rfl ⟨⟨Nat.le_of_ble_eq_true rfl, Nat.le_of_ble_eq_true rfl⟩, Nat.le_of_ble_eq_true rfl, Nat.le_of_ble_eq_true rfl⟩ (Nat.le_of_ble_eq_true rfl) dX3_digest_124 (Jk_v rfl rfl fun hok46 => ?_)
      obtain ⟨v47, e48, h⟩ := bnd_e h
      refine J_topl e48 ?_
      refine J_lstore_n (pc := 127) dX3_digest_127 rfl (Nat.le_of_ble_eq_true rfl) [1, 0] rfl ?_
      refine J_aload_n (pc := 128) dX3_digest_128 rfl 0 rfl ?_
      refine J_lload_n (pc := 129) dX3_digest_129 rfl 1 rfl ?_
      obtain ⟨v49, hc50, h⟩ := obind_e h
      refine J_callV (g := mi_X3_hashOfText) (ci := 3) (pc := 130) [.long v47] [] mv_X3_hashOfText w_411 (k_X3_hashOfText  v47 _ hc50) rfl (by decide) rfl rfl rfl ⟨⟨Nat.le_of_ble_eq_true rfl, Nat.le_of_ble_eq_true rfl⟩, Nat.le_of_ble_eq_true rfl, Nat.le_of_ble_eq_true rfl⟩ (Nat.le_of_ble_eq_true rfl) dX3_digest_130 (Jk_v rfl rfl fun hok51 => ?_)
      cases h
      exact J_lreturn dX3_digest_133 rfl rfl rfl rfl rfl
    · refine J_if_eq (pc := 87) (tgt := 103) dX3_digest_87 (by decide) (fun c35 => ?_) (fun c35 => ?_)
      · refine J_LS [(0, .ref 0), (1, .long v33)] [] (by rw [e34, if_pos c35]; first | done | rfl) rfl ?_
        exact hJ
      · refine J_lload_n (pc := 90) dX3_digest_90 rfl 1 rfl ?_
        refine J_aload_n (pc := 91) dX3_digest_91 rfl 0 rfl ?_
        refine get_0_0 (pc := 92) w_154 dX3_digest_92 ?_
        refine get_1_9 (pc := 95) w_69 dX3_digest_95 ?_
        refine J_i2l (pc := 98) dX3_digest_98 ?_
        refine J_callS (g := mi_X3_mix) (pc := 99) [.long v31, .long (M10.1 1 9).toInt64] [] ms_X3_mix w_185 (k_X3_mix  v31 (M10.1 1 9).toInt64 _) rfl rfl ⟨⟨Nat.le_of_ble_eq_true rfl, Nat.le_of_ble_eq_true rfl⟩, Nat.le_of_ble_eq_true rfl, Nat.le_of_ble_eq_true rfl⟩ (Nat.le_of_ble_eq_true rfl) dX3_digest_99 (Jk_v rfl rfl fun hok36 => ?_)
        refine J_lstore_n (pc := 102) dX3_digest_102 rfl (Nat.le_of_ble_eq_true rfl) [1, 0] rfl ?_
        refine J_LS [(0, .ref 0), (1, .long (F_X3_mix v31 (M10.1 1 9).toInt64))] [] rfl rfl ?_
        refine J_LS [(0, .ref 0), (1, .long v33)] [] (by rw [e34, if_neg c35]; first | done | rfl) rfl ?_
        exact hJ
  · refine J_if_eq (pc := 68) (tgt := 75) dX3_digest_68 (by decide) (fun c29 => ?_) (fun c29 => ?_)
    · refine J_lconst (v := (0 : Int64)) (pc := 75) dX3_digest_75 (by decide) ?_
      refine J_sub [0] rfl ?_
      refine J_topl (y := v27) (by rw [e28, if_pos c29]) ?_
      exact hJ
    · refine J_lconst (v := (1 : Int64)) (pc := 71) dX3_digest_71 (by decide) ?_
      refine J_goto (pc := 72) (tgt := 76) dX3_digest_72 (by decide) ?_
      refine J_sub [0] rfl ?_
      refine J_topl (y := v27) (by rw [e28, if_neg c29]) ?_
      exact hJ

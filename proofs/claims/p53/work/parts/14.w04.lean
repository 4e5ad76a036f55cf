/-! ===== walks of the methods, 4 ===== -/
set_option maxHeartbeats 4000000 in
set_option maxRecDepth 100000 in
theorem k_X1_enter {E : En} (a1 : Int32) (a2 : Int32) (a3 : Int32) (M : Wd) {r : Int32} {M' : Wd} (h : F_X1_enter a1 a2 a3 M = some (r, M')) : Con E mi_X1_enter [.ref 1, .int a1, .int a2, .int a3] M (.inl (some (.int r))) M' := by
  unfold F_X1_enter at h
  refine Con.of (by decide) rfl (Nat.le_of_ble_eq_true rfl) (fun κ => ?_)
  show J κ E mi_X1_enter _ 0 0 [(0, .ref 1), (1, .int a1), (2, .int a2), (3, .int a3)] M 0 []
  refine J_aload_n (pc := 0) dX1_enter_0 rfl 0 rfl ?_
  refine get_1_5 (pc := 1) w_60 dX1_enter_1 ?_
  obtain ⟨v1, e2, h⟩ := bnd_e h
  refine J_topi e2 ?_
  refine J_istore (pc := 4) dX1_enter_4 (Nat.le_of_ble_eq_true rfl) [1, 2, 3, 4, 0] rfl ?_
  refine J_iload (pc := 6) dX1_enter_6 4 rfl ?_
  obtain ⟨M3, hv9, h⟩ := obind_e h
  refine J_join [(0, .ref 1), (4, .int v1)] M3 52 [] ?_ (fun hJ => ?_)
  · refine J_aload_n (pc := 52) dX1_enter_52 rfl 0 rfl ?_
    refine J_iconst (v := (0 : Int32)) (pc := 53) dX1_enter_53 (by decide) ?_
    refine put_1_7 (pc := 54) w_64 dX1_enter_54 ?_
    refine J_iload (pc := 57) dX1_enter_57 1 rfl ?_
    cases h
    exact J_ireturn dX1_enter_59 rfl rfl rfl rfl rfl
  · replace h := hv9
    refine J_if_lt (pc := 8) (tgt := 52) dX1_enter_8 (by decide) (fun c4 => ?_) (fun c4 => ?_)
    · replace h := ifp c4 h
      cases h
      refine J_sub [0, 4] rfl ?_
      exact hJ
    · replace h := ifn c4 h
      refine J_iload (pc := 11) dX1_enter_11 4 rfl ?_
      refine J_bipush (v := (6 : Int32)) (pc := 13) dX1_enter_13 (by decide) ?_
      refine J_icmp_ge (pc := 15) (tgt := 52) dX1_enter_15 (by decide) (fun c5 => ?_) (fun c5 => ?_)
      · replace h := ifp c5 h
        cases h
        refine J_sub [0, 4] rfl ?_
        exact hJ
      · replace h := ifn c5 h
        refine J_aload_n (pc := 18) dX1_enter_18 rfl 0 rfl ?_
        refine get_1_0 (pc := 19) w_47 dX1_enter_19 ?_
        refine J_iload (pc := 22) dX1_enter_22 4 rfl ?_
        refine J_iload_n (pc := 24) dX1_enter_24 rfl 1 rfl ?_
        obtain ⟨hk6, h⟩ := inb_e h
        refine J_iast (c := 2) (N := 6) (pc := 25) (fun _ => ja_2) (Nat.le_of_ble_eq_true rfl) hk6 dX1_enter_25 ?_
        refine J_aload_n (pc := 26) dX1_enter_26 rfl 0 rfl ?_
        refine get_1_1 (pc := 27) w_50 dX1_enter_27 ?_
        refine J_iload (pc := 30) dX1_enter_30 4 rfl ?_
        refine J_iload_n (pc := 32) dX1_enter_32 rfl 2 rfl ?_
        obtain ⟨hk7, h⟩ := inb_e h
        refine J_iast (c := 3) (N := 6) (pc := 33) (fun _ => ja_3) (Nat.le_of_ble_eq_true rfl) hk7 dX1_enter_33 ?_
        refine J_aload_n (pc := 34) dX1_enter_34 rfl 0 rfl ?_
        refine get_1_2 (pc := 35) w_53 dX1_enter_35 ?_
        refine J_iload (pc := 38) dX1_enter_38 4 rfl ?_
        refine J_iload_n (pc := 40) dX1_enter_40 rfl 3 rfl ?_
        obtain ⟨hk8, h⟩ := inb_e h
        refine J_iast (c := 4) (N := 6) (pc := 41) (fun _ => ja_4) (Nat.le_of_ble_eq_true rfl) hk8 dX1_enter_41 ?_
        refine J_aload_n (pc := 42) dX1_enter_42 rfl 0 rfl ?_
        refine J_dup (pc := 43) dX1_enter_43 rfl ?_
        refine get_1_5 (pc := 44) w_60 dX1_enter_44 ?_
        refine J_topi (y := (M.1 1 5)) (Eq.symm (show (upI (upI (upI M 2 v1.toNatClampNeg a1) 3 v1.toNatClampNeg a2) 4 v1.toNatClampNeg a3).1 1 5 = (M.1 1 5) from (eI_ne (Nat.ne_of_beq_eq_false rfl) (eI_ne (Nat.ne_of_beq_eq_false rfl) (eI_ne (Nat.ne_of_beq_eq_false rfl) rfl))))) ?_
        refine J_iconst (v := (1 : Int32)) (pc := 47) dX1_enter_47 (by decide) ?_
        refine J_iadd (pc := 48) dX1_enter_48 ?_
        refine put_1_5 (pc := 49) w_60 dX1_enter_49 ?_
        cases h
        refine J_sub [0, 4] rfl ?_
        exact hJ
set_option maxHeartbeats 4000000 in
set_option maxRecDepth 100000 in
theorem k_X1_leave {E : En} (M : Wd) {r : Int32} {M' : Wd} (h : F_X1_leave M = some (r, M')) : Con E mi_X1_leave [.ref 1] M (.inl (some (.int r))) M' := by
  unfold F_X1_leave at h
  refine Con.of (by decide) rfl (Nat.le_of_ble_eq_true rfl) (fun κ => ?_)
  show J κ E mi_X1_leave _ 0 0 [(0, .ref 1)] M 0 []
  refine J_aload_n (pc := 0) dX1_leave_0 rfl 0 rfl ?_
  refine J_dup (pc := 1) dX1_leave_1 rfl ?_
  refine get_1_5 (pc := 2) w_60 dX1_leave_2 ?_
  refine J_iconst (v := (1 : Int32)) (pc := 5) dX1_leave_5 (by decide) ?_
  refine J_isub (pc := 6) dX1_leave_6 ?_
  refine put_1_5 (pc := 7) w_60 dX1_leave_7 ?_
  refine J_aload_n (pc := 10) dX1_leave_10 rfl 0 rfl ?_
  refine J_iconst (v := (0 : Int32)) (pc := 11) dX1_leave_11 (by decide) ?_
  refine put_1_7 (pc := 12) w_64 dX1_leave_12 ?_
  refine J_aload_n (pc := 15) dX1_leave_15 rfl 0 rfl ?_
  refine get_1_5 (pc := 16) w_60 dX1_leave_16 ?_
  refine J_topi (y := ((M.1 1 5) - (1 : Int32))) (Eq.symm (show (upI (upI M 1 5 ((M.1 1 5) - (1 : Int32))) 1 7 (0 : Int32)).1 1 5 = ((M.1 1 5) - (1 : Int32)) from (eI_kn (Nat.ne_of_beq_eq_false rfl) eI_kk))) ?_
  cases h
  exact J_ireturn dX1_leave_19 rfl rfl rfl rfl rfl
set_option maxHeartbeats 4000000 in
set_option maxRecDepth 100000 in
theorem k_J6_bitCount_0f7a4 {E : En} (a0 : Int32) (M : Wd) : Con E mi_J6_bitCount_0f7a4 [.int a0] M (.inl (some (.int (F_J6_bitCount_0f7a4 a0)))) M := by
  obtain ⟨r, h⟩ : ∃ r, F_J6_bitCount_0f7a4 a0 = r := ⟨_, rfl⟩
  rw [h]
  unfold F_J6_bitCount_0f7a4 at h
  refine Con.of (by decide) rfl (Nat.le_of_ble_eq_true rfl) (fun κ => ?_)
  show J κ E mi_J6_bitCount_0f7a4 _ 0 0 [(0, .int a0)] M 0 []
  refine J_iload_n (pc := 0) dJ6_bitCount_0f7a4_0 rfl 0 rfl ?_
  refine J_iload_n (pc := 1) dJ6_bitCount_0f7a4_1 rfl 0 rfl ?_
  refine J_iconst (v := (1 : Int32)) (pc := 2) dJ6_bitCount_0f7a4_2 (by decide) ?_
  refine J_iushr (pc := 3) dJ6_bitCount_0f7a4_3 rfl ?_
  refine J_ldcw (pc := 4) w_196 dJ6_bitCount_0f7a4_4 ?_
  refine J_iand (pc := 7) dJ6_bitCount_0f7a4_7 ?_
  refine J_isub (pc := 8) dJ6_bitCount_0f7a4_8 ?_
  obtain ⟨v1, e2, h⟩ := bnd_e h
  refine J_topi e2 ?_
  refine J_istore_n (pc := 9) dJ6_bitCount_0f7a4_9 rfl (Nat.le_of_ble_eq_true rfl) [0] rfl ?_
  refine J_iload_n (pc := 10) dJ6_bitCount_0f7a4_10 rfl 0 rfl ?_
  refine J_ldcw (pc := 11) w_197 dJ6_bitCount_0f7a4_11 ?_
  refine J_iand (pc := 14) dJ6_bitCount_0f7a4_14 ?_
  refine J_iload_n (pc := 15) dJ6_bitCount_0f7a4_15 rfl 0 rfl ?_
  refine J_iconst (v := (2 : Int32)) (pc := 16) dJ6_bitCount_0f7a4_16 (by decide) ?_
  refine J_iushr (pc := 17) dJ6_bitCount_0f7a4_17 rfl ?_
  refine J_ldcw (pc := 18) w_197 dJ6_bitCount_0f7a4_18 ?_
  refine J_iand (pc := 21) dJ6_bitCount_0f7a4_21 ?_
  refine J_iadd (pc := 22) dJ6_bitCount_0f7a4_22 ?_
  obtain ⟨v3, e4, h⟩ := bnd_e h
  refine J_topi e4 ?_
  refine J_istore_n (pc := 23) dJ6_bitCount_0f7a4_23 rfl (Nat.le_of_ble_eq_true rfl) [0] rfl ?_
  refine J_LS [(0, .int v3)] [] rfl rfl ?_
  refine J_iload_n (pc := 24) dJ6_bitCount_0f7a4_24 rfl 0 rfl ?_
  refine J_iload_n (pc := 25) dJ6_bitCount_0f7a4_25 rfl 0 rfl ?_
  refine J_iconst (v := (4 : Int32)) (pc := 26) dJ6_bitCount_0f7a4_26 (by decide) ?_
  refine J_iushr (pc := 27) dJ6_bitCount_0f7a4_27 rfl ?_
  refine J_iadd (pc := 28) dJ6_bitCount_0f7a4_28 ?_
  refine J_ldcw (pc := 29) w_198 dJ6_bitCount_0f7a4_29 ?_
  refine J_iand (pc := 32) dJ6_bitCount_0f7a4_32 ?_
  obtain ⟨v5, e6, h⟩ := bnd_e h
  refine J_topi e6 ?_
  refine J_istore_n (pc := 33) dJ6_bitCount_0f7a4_33 rfl (Nat.le_of_ble_eq_true rfl) [0] rfl ?_
  refine J_iload_n (pc := 34) dJ6_bitCount_0f7a4_34 rfl 0 rfl ?_
  refine J_iload_n (pc := 35) dJ6_bitCount_0f7a4_35 rfl 0 rfl ?_
  refine J_bipush (v := (8 : Int32)) (pc := 36) dJ6_bitCount_0f7a4_36 (by decide) ?_
  refine J_iushr (pc := 38) dJ6_bitCount_0f7a4_38 rfl ?_
  refine J_iadd (pc := 39) dJ6_bitCount_0f7a4_39 ?_
  obtain ⟨v7, e8, h⟩ := bnd_e h
  refine J_topi e8 ?_
  refine J_istore_n (pc := 40) dJ6_bitCount_0f7a4_40 rfl (Nat.le_of_ble_eq_true rfl) [0] rfl ?_
  refine J_LS [(0, .int v7)] [] rfl rfl ?_
  refine J_iload_n (pc := 41) dJ6_bitCount_0f7a4_41 rfl 0 rfl ?_
  refine J_iload_n (pc := 42) dJ6_bitCount_0f7a4_42 rfl 0 rfl ?_
  refine J_bipush (v := (16 : Int32)) (pc := 43) dJ6_bitCount_0f7a4_43 (by decide) ?_
  refine J_iushr (pc := 45) dJ6_bitCount_0f7a4_45 rfl ?_
  refine J_iadd (pc := 46) dJ6_bitCount_0f7a4_46 ?_
  obtain ⟨v9, e10, h⟩ := bnd_e h
  refine J_topi e10 ?_
  refine J_istore_n (pc := 47) dJ6_bitCount_0f7a4_47 rfl (Nat.le_of_ble_eq_true rfl) [0] rfl ?_
  refine J_iload_n (pc := 48) dJ6_bitCount_0f7a4_48 rfl 0 rfl ?_
  refine J_bipush (v := (63 : Int32)) (pc := 49) dJ6_bitCount_0f7a4_49 (by decide) ?_
  refine J_iand (pc := 51) dJ6_bitCount_0f7a4_51 ?_
  subst h
  exact J_ireturn dJ6_bitCount_0f7a4_52 rfl rfl rfl rfl rfl
set_option maxHeartbeats 4000000 in
set_option maxRecDepth 100000 in
theorem k_X3_isCell {E : En} (a0 : Int32) (M : Wd) : Con E mi_X3_isCell [.int a0] M (.inl (some (.int (F_X3_isCell a0)))) M := by
  obtain ⟨r, h⟩ : ∃ r, F_X3_isCell a0 = r := ⟨_, rfl⟩
  rw [h]
  unfold F_X3_isCell at h
  refine Con.of (by decide) rfl (Nat.le_of_ble_eq_true rfl) (fun κ => ?_)
  show J κ E mi_X3_isCell _ 0 0 [(0, .int a0)] M 0 []
  refine J_iload_n (pc := 0) dX3_isCell_0 rfl 0 rfl ?_
  refine J_if_lt (pc := 1) (tgt := 14) dX3_isCell_1 (by decide) (fun c1 => ?_) (fun c1 => ?_)
  · replace h := ifp c1 h
    refine J_iconst (v := (0 : Int32)) (pc := 14) dX3_isCell_14 (by decide) ?_
    subst h
    exact J_zreturn dX3_isCell_15 rfl (Or.inl rfl) rfl rfl rfl rfl
  · replace h := ifn c1 h
    refine J_iload_n (pc := 4) dX3_isCell_4 rfl 0 rfl ?_
    refine J_bipush (v := (25 : Int32)) (pc := 5) dX3_isCell_5 (by decide) ?_
    refine J_icmp_ge (pc := 7) (tgt := 14) dX3_isCell_7 (by decide) (fun c2 => ?_) (fun c2 => ?_)
    · replace h := ifp c2 h
      refine J_iconst (v := (0 : Int32)) (pc := 14) dX3_isCell_14 (by decide) ?_
      subst h
      exact J_zreturn dX3_isCell_15 rfl (Or.inl rfl) rfl rfl rfl rfl
    · replace h := ifn c2 h
      refine J_iconst (v := (1 : Int32)) (pc := 10) dX3_isCell_10 (by decide) ?_
      refine J_goto (pc := 11) (tgt := 15) dX3_isCell_11 (by decide) ?_
      subst h
      exact J_zreturn dX3_isCell_15 rfl (Or.inr rfl) rfl rfl rfl rfl
set_option maxHeartbeats 4000000 in
set_option maxRecDepth 100000 in
theorem k_X1_troubleOfWall {E : En} (a1 : Int32) (M : Wd) {r : Int32} (h : F_X1_troubleOfWall a1 M = some r) : Con E mi_X1_troubleOfWall [.ref 1, .int a1] M (.inl (some (.int r))) M := by
  unfold F_X1_troubleOfWall at h
  refine Con.of (by decide) rfl (Nat.le_of_ble_eq_true rfl) (fun κ => ?_)
  show J κ E mi_X1_troubleOfWall _ 0 0 [(0, .ref 1), (1, .int a1)] M 0 []
  refine J_iload_n (pc := 0) dX1_troubleOfWall_0 rfl 1 rfl ?_
  refine J_callSN (g := mi_X3_isCell) (pc := 1) [.int a1] [] ms_X3_isCell w_713 (k_X3_isCell  a1 _) rfl rfl ⟨⟨Nat.le_of_ble_eq_true rfl, Nat.le_of_ble_eq_true rfl⟩, Nat.le_of_ble_eq_true rfl, Nat.le_of_ble_eq_true rfl⟩ (Nat.le_of_ble_eq_true rfl) dX1_troubleOfWall_1 (Jk_v rfl rfl fun hok1 => ?_)
  refine J_if_ne (pc := 4) (tgt := 9) dX1_troubleOfWall_4 (by decide) (fun c2 => ?_) (fun c2 => ?_)
  · replace h := ifn c2 h
    refine J_aload_n (pc := 9) dX1_troubleOfWall_9 rfl 0 rfl ?_
    refine J_iload_n (pc := 10) dX1_troubleOfWall_10 rfl 1 rfl ?_
    refine J_callV (g := mi_X1_hasWallAt) (ci := 1) (pc := 11) [.int a1] [] mv_X1_hasWallAt w_716 (k_X1_hasWallAt  a1 _) rfl (by decide) rfl rfl rfl ⟨⟨Nat.le_of_ble_eq_true rfl, Nat.le_of_ble_eq_true rfl⟩, Nat.le_of_ble_eq_true rfl, Nat.le_of_ble_eq_true rfl⟩ (Nat.le_of_ble_eq_true rfl) dX1_troubleOfWall_11 (Jk_v rfl rfl fun hok3 => ?_)
    obtain ⟨v4, e5, h⟩ := bnd_e h
    have hb9 : isB v4 := by rw [e5]; repeat (first | exact Or.inl rfl | exact Or.inr rfl | assumption | exact okB_b (by assumption) | apply isB_ite)
    refine J_join [(0, .ref 1), (1, .int a1)] M 33 [.int v4] ?_ (fun hJ => ?_)
    · refine J_istore_n (pc := 33) dX1_troubleOfWall_33 rfl (Nat.le_of_ble_eq_true rfl) [1, 2, 0] rfl ?_
      refine J_aload_n (pc := 34) dX1_troubleOfWall_34 rfl 0 rfl ?_
      refine J_iload_n (pc := 35) dX1_troubleOfWall_35 rfl 1 rfl ?_
      obtain ⟨v10, hc11, h⟩ := obind_e h
      refine J_callV (g := mi_X1_carAt) (ci := 1) (pc := 36) [.int a1] [] mv_X1_carAt w_718 (k_X1_carAt  a1 _ hc11) rfl (by decide) rfl rfl rfl ⟨⟨Nat.le_of_ble_eq_true rfl, Nat.le_of_ble_eq_true rfl⟩, Nat.le_of_ble_eq_true rfl, Nat.le_of_ble_eq_true rfl⟩ (Nat.le_of_ble_eq_true rfl) dX1_troubleOfWall_36 (Jk_v rfl rfl fun hok12 => ?_)
      refine J_if_ge (pc := 39) (tgt := 46) dX1_troubleOfWall_39 (by decide) (fun c13 => ?_) (fun c13 => ?_)
      · replace h := ifp c13 h
        refine J_iconst (v := (3 : Int32)) (pc := 46) dX1_troubleOfWall_46 (by decide) ?_
        refine J_goto (pc := 47) (tgt := 51) dX1_troubleOfWall_47 (by decide) ?_
        cases h
        exact J_ireturn dX1_troubleOfWall_51 rfl rfl rfl rfl rfl
      · replace h := ifn c13 h
        refine J_iload_n (pc := 42) dX1_troubleOfWall_42 rfl 2 rfl ?_
        refine J_if_eq (pc := 43) (tgt := 50) dX1_troubleOfWall_43 (by decide) (fun c14 => ?_) (fun c14 => ?_)
        · replace h := ifp c14 h
          refine J_iconst (v := (0 : Int32)) (pc := 50) dX1_troubleOfWall_50 (by decide) ?_
          cases h
          exact J_ireturn dX1_troubleOfWall_51 rfl rfl rfl rfl rfl
        · replace h := ifn c14 h
          refine J_iconst (v := (3 : Int32)) (pc := 46) dX1_troubleOfWall_46 (by decide) ?_
          refine J_goto (pc := 47) (tgt := 51) dX1_troubleOfWall_47 (by decide) ?_
          cases h
          exact J_ireturn dX1_troubleOfWall_51 rfl rfl rfl rfl rfl
    · refine J_if_ne (pc := 14) (tgt := 32) dX1_troubleOfWall_14 (by decide) (fun c6 => ?_) (fun c6 => ?_)
      · refine J_iconst (v := (0 : Int32)) (pc := 32) dX1_troubleOfWall_32 (by decide) ?_
        refine J_topi (y := v4) (by rw [e5, if_neg c6]) ?_
        exact hJ
      · refine J_aload_n (pc := 17) dX1_troubleOfWall_17 rfl 0 rfl ?_
        refine get_1_6 (pc := 18) w_62 dX1_troubleOfWall_18 ?_
        refine J_callS (g := mi_J6_bitCount_0f7a4) (pc := 21) [.int (M.1 1 6)] [] ms_J6_bitCount_0f7a4 w_717 (k_J6_bitCount_0f7a4  (M.1 1 6) _) rfl rfl ⟨⟨Nat.le_of_ble_eq_true rfl, Nat.le_of_ble_eq_true rfl⟩, Nat.le_of_ble_eq_true rfl, Nat.le_of_ble_eq_true rfl⟩ (Nat.le_of_ble_eq_true rfl) dX1_troubleOfWall_21 (Jk_v rfl rfl fun hok7 => ?_)
        refine J_iconst (v := (4 : Int32)) (pc := 24) dX1_troubleOfWall_24 (by decide) ?_
        refine J_icmp_lt (pc := 25) (tgt := 32) dX1_troubleOfWall_25 (by decide) (fun c8 => ?_) (fun c8 => ?_)
        · refine J_iconst (v := (0 : Int32)) (pc := 32) dX1_troubleOfWall_32 (by decide) ?_
          refine J_topi (y := v4) (by rw [e5, if_pos c6, if_pos c8]) ?_
          exact hJ
        · refine J_iconst (v := (1 : Int32)) (pc := 28) dX1_troubleOfWall_28 (by decide) ?_
          refine J_goto (pc := 29) (tgt := 33) dX1_troubleOfWall_29 (by decide) ?_
          refine J_topi (y := v4) (by rw [e5, if_pos c6, if_neg c8]) ?_
          exact hJ
  · replace h := ifp c2 h
    refine J_iconst (v := (1 : Int32)) (pc := 7) dX1_troubleOfWall_7 (by decide) ?_
    cases h
    exact J_ireturn dX1_troubleOfWall_8 rfl rfl rfl rfl rfl
set_option maxHeartbeats 4000000 in
set_option maxRecDepth 100000 in
theorem k_X1_turnWall {E : En} (a1 : Int32) (M : Wd) {r : Int32} {M' : Wd} (h : F_X1_turnWall a1 M = some (r, M')) : Con E mi_X1_turnWall [.ref 1, .int a1] M (.inl (some (.int r))) M' := by
  unfold F_X1_turnWall at h
  refine Con.of (by decide) rfl (Nat.le_of_ble_eq_true rfl) (fun κ => ?_)
  show J κ E mi_X1_turnWall _ 0 0 [(0, .ref 1), (1, .int a1)] M 0 []
  refine J_aload_n (pc := 0) dX1_turnWall_0 rfl 0 rfl ?_
  refine J_dup (pc := 1) dX1_turnWall_1 rfl ?_
  refine get_1_6 (pc := 2) w_62 dX1_turnWall_2 ?_
  refine J_iconst (v := (1 : Int32)) (pc := 5) dX1_turnWall_5 (by decide) ?_
  refine J_iload_n (pc := 6) dX1_turnWall_6 rfl 1 rfl ?_
  refine J_ishl (pc := 7) dX1_turnWall_7 ?_
  refine J_ixor (pc := 8) dX1_turnWall_8 ?_
  refine put_1_6 (pc := 9) w_62 dX1_turnWall_9 ?_
  refine J_aload_n (pc := 12) dX1_turnWall_12 rfl 0 rfl ?_
  refine J_iconst (v := (0 : Int32)) (pc := 13) dX1_turnWall_13 (by decide) ?_
  refine put_1_7 (pc := 14) w_64 dX1_turnWall_14 ?_
  refine J_aload_n (pc := 17) dX1_turnWall_17 rfl 0 rfl ?_
  refine J_iload_n (pc := 18) dX1_turnWall_18 rfl 1 rfl ?_
  refine J_callV (g := mi_X1_hasWallAt) (ci := 1) (pc := 19) [.int a1] [] mv_X1_hasWallAt w_716 (k_X1_hasWallAt  a1 _) rfl (by decide) rfl rfl rfl ⟨⟨Nat.le_of_ble_eq_true rfl, Nat.le_of_ble_eq_true rfl⟩, Nat.le_of_ble_eq_true rfl, Nat.le_of_ble_eq_true rfl⟩ (Nat.le_of_ble_eq_true rfl) dX1_turnWall_19 (Jk_v rfl rfl fun hok1 => ?_)
  cases h
  exact J_zreturn dX1_turnWall_22 rfl (okB_b hok1) rfl rfl rfl rfl
set_option maxHeartbeats 4000000 in
set_option maxRecDepth 100000 in
theorem k_X1_troubleOfSliding {E : En} (a1 : Int32) (a2 : Int32) (M : Wd) {r : Int32} (h : F_X1_troubleOfSliding a1 a2 M = some r) : Con E mi_X1_troubleOfSliding [.ref 1, .int a1, .int a2] M (.inl (some (.int r))) M := by
  unfold F_X1_troubleOfSliding at h
  refine Con.of (by decide) rfl (Nat.le_of_ble_eq_true rfl) (fun κ => ?_)
  show J κ E mi_X1_troubleOfSliding _ 0 0 [(0, .ref 1), (1, .int a1), (2, .int a2)] M 0 []
  refine J_aload_n (pc := 0) dX1_troubleOfSliding_0 rfl 0 rfl ?_
  refine J_iload_n (pc := 1) dX1_troubleOfSliding_1 rfl 1 rfl ?_
  refine J_callV (g := mi_X1_hasCar) (ci := 1) (pc := 2) [.int a1] [] mv_X1_hasCar w_227 (k_X1_hasCar  a1 _) rfl (by decide) rfl rfl rfl ⟨⟨Nat.le_of_ble_eq_true rfl, Nat.le_of_ble_eq_true rfl⟩, Nat.le_of_ble_eq_true rfl, Nat.le_of_ble_eq_true rfl⟩ (Nat.le_of_ble_eq_true rfl) dX1_troubleOfSliding_2 (Jk_v rfl rfl fun hok1 => ?_)
  refine J_if_ne (pc := 5) (tgt := 10) dX1_troubleOfSliding_5 (by decide) (fun c2 => ?_) (fun c2 => ?_)
  · replace h := ifn c2 h
    refine J_iload_n (pc := 10) dX1_troubleOfSliding_10 rfl 2 rfl ?_
    refine J_bipush (v := (-3 : Int32)) (pc := 11) dX1_troubleOfSliding_11 (by decide) ?_
    refine J_icmp_lt (pc := 13) (tgt := 25) dX1_troubleOfSliding_13 (by decide) (fun c3 => ?_) (fun c3 => ?_)
    · replace h := ifp c3 h
      refine J_iconst (v := (2 : Int32)) (pc := 25) dX1_troubleOfSliding_25 (by decide) ?_
      cases h
      exact J_ireturn dX1_troubleOfSliding_26 rfl rfl rfl rfl rfl
    · replace h := ifn c3 h
      refine J_iload_n (pc := 16) dX1_troubleOfSliding_16 rfl 2 rfl ?_
      refine J_iconst (v := (3 : Int32)) (pc := 17) dX1_troubleOfSliding_17 (by decide) ?_
      refine J_icmp_gt (pc := 18) (tgt := 25) dX1_troubleOfSliding_18 (by decide) (fun c4 => ?_) (fun c4 => ?_)
      · replace h := ifp c4 h
        refine J_iconst (v := (2 : Int32)) (pc := 25) dX1_troubleOfSliding_25 (by decide) ?_
        cases h
        exact J_ireturn dX1_troubleOfSliding_26 rfl rfl rfl rfl rfl
      · replace h := ifn c4 h
        refine J_iload_n (pc := 21) dX1_troubleOfSliding_21 rfl 2 rfl ?_
        refine J_if_ne (pc := 22) (tgt := 27) dX1_troubleOfSliding_22 (by decide) (fun c5 => ?_) (fun c5 => ?_)
        · replace h := ifn c5 h
          refine J_iload_n (pc := 27) dX1_troubleOfSliding_27 rfl 2 rfl ?_
          obtain ⟨v6, hv14, h⟩ := obind_e h
          refine J_join [(2, .int a2)] M 46 [.int v6] ?_ (fun hJ => ?_)
          · refine J_istore_n (pc := 46) dX1_troubleOfSliding_46 rfl (Nat.le_of_ble_eq_true rfl) [1, 0] rfl ?_
            refine J_iload_n (pc := 47) dX1_troubleOfSliding_47 rfl 0 rfl ?_
            refine J_mabs (pc := 48) w_239 w_241 w_240 w_31 (Nat.le_of_ble_eq_true rfl) (Nat.le_of_ble_eq_true rfl) (Nat.le_of_ble_eq_true rfl) (Nat.le_of_ble_eq_true rfl) dX1_troubleOfSliding_48 ?_
            refine J_iload_n (pc := 51) dX1_troubleOfSliding_51 rfl 1 rfl ?_
            refine J_icmp_le (pc := 52) (tgt := 59) dX1_troubleOfSliding_52 (by decide) (fun c15 => ?_) (fun c15 => ?_)
            · replace h := ifp c15 h
              refine J_iconst (v := (0 : Int32)) (pc := 59) dX1_troubleOfSliding_59 (by decide) ?_
              cases h
              exact J_ireturn dX1_troubleOfSliding_60 rfl rfl rfl rfl rfl
            · replace h := ifn c15 h
              refine J_iconst (v := (3 : Int32)) (pc := 55) dX1_troubleOfSliding_55 (by decide) ?_
              refine J_goto (pc := 56) (tgt := 60) dX1_troubleOfSliding_56 (by decide) ?_
              cases h
              exact J_ireturn dX1_troubleOfSliding_60 rfl rfl rfl rfl rfl
          · replace h := hv14
            refine J_if_le (pc := 28) (tgt := 40) dX1_troubleOfSliding_28 (by decide) (fun c7 => ?_) (fun c7 => ?_)
            · replace h := ifp c7 h
              refine J_aload_n (pc := 40) dX1_troubleOfSliding_40 rfl 0 rfl ?_
              refine J_iload_n (pc := 41) dX1_troubleOfSliding_41 rfl 1 rfl ?_
              refine J_iconst (v := (-1 : Int32)) (pc := 42) dX1_troubleOfSliding_42 (by decide) ?_
              obtain ⟨v8, hc9, h⟩ := obind_e h
              refine J_callV (g := mi_X1_roomOf) (ci := 1) (pc := 43) [.int a1, .int (-1 : Int32)] [] mv_X1_roomOf w_599 (k_X1_roomOf  a1 (-1 : Int32) _ hc9) rfl (by decide) rfl rfl rfl ⟨⟨Nat.le_of_ble_eq_true rfl, Nat.le_of_ble_eq_true rfl⟩, Nat.le_of_ble_eq_true rfl, Nat.le_of_ble_eq_true rfl⟩ (Nat.le_of_ble_eq_true rfl) dX1_troubleOfSliding_43 (Jk_v rfl rfl fun hok10 => ?_)
              cases h
              refine J_sub [2] rfl ?_
              exact hJ
            · replace h := ifn c7 h
              refine J_aload_n (pc := 31) dX1_troubleOfSliding_31 rfl 0 rfl ?_
              refine J_iload_n (pc := 32) dX1_troubleOfSliding_32 rfl 1 rfl ?_
              refine J_iconst (v := (1 : Int32)) (pc := 33) dX1_troubleOfSliding_33 (by decide) ?_
              obtain ⟨v11, hc12, h⟩ := obind_e h
              refine J_callV (g := mi_X1_roomOf) (ci := 1) (pc := 34) [.int a1, .int (1 : Int32)] [] mv_X1_roomOf w_599 (k_X1_roomOf  a1 (1 : Int32) _ hc12) rfl (by decide) rfl rfl rfl ⟨⟨Nat.le_of_ble_eq_true rfl, Nat.le_of_ble_eq_true rfl⟩, Nat.le_of_ble_eq_true rfl, Nat.le_of_ble_eq_true rfl⟩ (Nat.le_of_ble_eq_true rfl) dX1_troubleOfSliding_34 (Jk_v rfl rfl fun hok13 => ?_)
              refine J_goto (pc := 37) (tgt := 46) dX1_troubleOfSliding_37 (by decide) ?_
              cases h
              refine J_sub [2] rfl ?_
              exact hJ
        · replace h := ifp c5 h
          refine J_iconst (v := (2 : Int32)) (pc := 25) dX1_troubleOfSliding_25 (by decide) ?_
          cases h
          exact J_ireturn dX1_troubleOfSliding_26 rfl rfl rfl rfl rfl
  · replace h := ifp c2 h
    refine J_iconst (v := (1 : Int32)) (pc := 8) dX1_troubleOfSliding_8 (by decide) ?_
    cases h
    exact J_ireturn dX1_troubleOfSliding_9 rfl rfl rfl rfl rfl
set_option maxHeartbeats 4000000 in
set_option maxRecDepth 100000 in
theorem k_X1_makeSlide {E : En} (a1 : Int32) (a2 : Int32) (M : Wd) {r : Int32} {M' : Wd} (h : F_X1_makeSlide a1 a2 M = some (r, M')) : Con E mi_X1_makeSlide [.ref 1, .int a1, .int a2] M (.inl (some (.int r))) M' := by
  unfold F_X1_makeSlide at h
  refine Con.of (by decide) rfl (Nat.le_of_ble_eq_true rfl) (fun κ => ?_)
  show J κ E mi_X1_makeSlide _ 0 0 [(0, .ref 1), (1, .int a1), (2, .int a2)] M 0 []
  refine J_aload_n (pc := 0) dX1_makeSlide_0 rfl 0 rfl ?_
  refine J_iload_n (pc := 1) dX1_makeSlide_1 rfl 1 rfl ?_
  refine J_callV (g := mi_X1_hasCar) (ci := 1) (pc := 2) [.int a1] [] mv_X1_hasCar w_227 (k_X1_hasCar  a1 _) rfl (by decide) rfl rfl rfl ⟨⟨Nat.le_of_ble_eq_true rfl, Nat.le_of_ble_eq_true rfl⟩, Nat.le_of_ble_eq_true rfl, Nat.le_of_ble_eq_true rfl⟩ (Nat.le_of_ble_eq_true rfl) dX1_makeSlide_2 (Jk_v rfl rfl fun hok1 => ?_)
  refine J_if_eq (pc := 5) (tgt := 24) dX1_makeSlide_5 (by decide) (fun c2 => ?_) (fun c2 => ?_)
  · replace h := ifp c2 h
    refine J_iconst (v := (-1 : Int32)) (pc := 24) dX1_makeSlide_24 (by decide) ?_
    cases h
    exact J_ireturn dX1_makeSlide_25 rfl rfl rfl rfl rfl
  · replace h := ifn c2 h
    refine J_aload_n (pc := 8) dX1_makeSlide_8 rfl 0 rfl ?_
    refine get_1_7 (pc := 9) w_64 dX1_makeSlide_9 ?_
    refine J_if_lt (pc := 12) (tgt := 24) dX1_makeSlide_12 (by decide) (fun c3 => ?_) (fun c3 => ?_)
    · replace h := ifp c3 h
      refine J_iconst (v := (-1 : Int32)) (pc := 24) dX1_makeSlide_24 (by decide) ?_
      cases h
      exact J_ireturn dX1_makeSlide_25 rfl rfl rfl rfl rfl
    · replace h := ifn c3 h
      refine J_aload_n (pc := 15) dX1_makeSlide_15 rfl 0 rfl ?_
      refine get_1_7 (pc := 16) w_64 dX1_makeSlide_16 ?_
      refine J_bipush (v := (60 : Int32)) (pc := 19) dX1_makeSlide_19 (by decide) ?_
      refine J_icmp_lt (pc := 21) (tgt := 26) dX1_makeSlide_21 (by decide) (fun c4 => ?_) (fun c4 => ?_)
      · replace h := ifp c4 h
        refine J_aload_n (pc := 26) dX1_makeSlide_26 rfl 0 rfl ?_
        refine get_1_1 (pc := 27) w_50 dX1_makeSlide_27 ?_
        refine J_iload_n (pc := 30) dX1_makeSlide_30 rfl 1 rfl ?_
        refine J_dup2 (pc := 31) dX1_makeSlide_31 rfl rfl ?_
        obtain ⟨v5, e6, hk7, h⟩ := ldi_e h
        refine J_iald (c := 3) (N := 6) (pc := 32) ja_3 (Nat.le_of_ble_eq_true rfl) hk7 dX1_makeSlide_32 ?_
        refine J_topi e6 ?_
        refine J_iload_n (pc := 33) dX1_makeSlide_33 rfl 2 rfl ?_
        refine J_iadd (pc := 34) dX1_makeSlide_34 ?_
        obtain ⟨hk8, h⟩ := inb_e h
        refine J_iast (c := 3) (N := 6) (pc := 35) (fun _ => ja_3) (Nat.le_of_ble_eq_true rfl) hk8 dX1_makeSlide_35 ?_
        refine J_aload_n (pc := 36) dX1_makeSlide_36 rfl 0 rfl ?_
        refine get_1_3 (pc := 37) w_56 dX1_makeSlide_37 ?_
        refine J_aload_n (pc := 40) dX1_makeSlide_40 rfl 0 rfl ?_
        refine get_1_7 (pc := 41) w_64 dX1_makeSlide_41 ?_
        refine J_topi (y := (M.1 1 7)) (Eq.symm (show (upI M 3 a1.toNatClampNeg (v5 + a2)).1 1 7 = (M.1 1 7) from (eI_ne (Nat.ne_of_beq_eq_false rfl) rfl))) ?_
        refine J_iload_n (pc := 44) dX1_makeSlide_44 rfl 1 rfl ?_
        obtain ⟨hk9, h⟩ := inb_e h
        refine J_iast (c := 5) (N := 60) (pc := 45) (fun _ => ja_5) (Nat.le_of_ble_eq_true rfl) hk9 dX1_makeSlide_45 ?_
        refine J_aload_n (pc := 46) dX1_makeSlide_46 rfl 0 rfl ?_
        refine get_1_4 (pc := 47) w_58 dX1_makeSlide_47 ?_
        refine J_aload_n (pc := 50) dX1_makeSlide_50 rfl 0 rfl ?_
        refine get_1_7 (pc := 51) w_64 dX1_makeSlide_51 ?_
        refine J_topi (y := (M.1 1 7)) (Eq.symm (show (upI (upI M 3 a1.toNatClampNeg (v5 + a2)) 5 (M.1 1 7).toNatClampNeg a1).1 1 7 = (M.1 1 7) from (eI_ne (Nat.ne_of_beq_eq_false rfl) (eI_ne (Nat.ne_of_beq_eq_false rfl) rfl)))) ?_
        refine J_iload_n (pc := 54) dX1_makeSlide_54 rfl 2 rfl ?_
        obtain ⟨hk10, h⟩ := inb_e h
        refine J_iast (c := 6) (N := 60) (pc := 55) (fun _ => ja_6) (Nat.le_of_ble_eq_true rfl) hk10 dX1_makeSlide_55 ?_
        refine J_aload_n (pc := 56) dX1_makeSlide_56 rfl 0 rfl ?_
        refine J_dup (pc := 57) dX1_makeSlide_57 rfl ?_
        refine get_1_7 (pc := 58) w_64 dX1_makeSlide_58 ?_
        refine J_topi (y := (M.1 1 7)) (Eq.symm (show (upI (upI (upI M 3 a1.toNatClampNeg (v5 + a2)) 5 (M.1 1 7).toNatClampNeg a1) 6 (M.1 1 7).toNatClampNeg a2).1 1 7 = (M.1 1 7) from (eI_ne (Nat.ne_of_beq_eq_false rfl) (eI_ne (Nat.ne_of_beq_eq_false rfl) (eI_ne (Nat.ne_of_beq_eq_false rfl) rfl))))) ?_
        refine J_iconst (v := (1 : Int32)) (pc := 61) dX1_makeSlide_61 (by decide) ?_
        refine J_iadd (pc := 62) dX1_makeSlide_62 ?_
        refine put_1_7 (pc := 63) w_64 dX1_makeSlide_63 ?_
        refine J_aload_n (pc := 66) dX1_makeSlide_66 rfl 0 rfl ?_
        refine get_1_1 (pc := 67) w_50 dX1_makeSlide_67 ?_
        refine J_iload_n (pc := 70) dX1_makeSlide_70 rfl 1 rfl ?_
        obtain ⟨v11, e12, hk13, h⟩ := ldi_e h
        refine J_iald (c := 3) (N := 6) (pc := 71) ja_3 (Nat.le_of_ble_eq_true rfl) hk13 dX1_makeSlide_71 ?_
        refine J_topi (e12.trans (congrFun (Eq.symm (show (upI (upI (upI (upI M 3 a1.toNatClampNeg (v5 + a2)) 5 (M.1 1 7).toNatClampNeg a1) 6 (M.1 1 7).toNatClampNeg a2) 1 7 ((M.1 1 7) + (1 : Int32))).1 3 = (upI M 3 a1.toNatClampNeg (v5 + a2)).1 3 from (rI_ne (Nat.ne_of_beq_eq_false rfl) (rI_ne (Nat.ne_of_beq_eq_false rfl) (rI_ne (Nat.ne_of_beq_eq_false rfl) (rI_cg rfl)))))) _)) ?_
        cases h
        exact J_ireturn dX1_makeSlide_72 rfl rfl rfl rfl rfl
      · replace h := ifn c4 h
        refine J_iconst (v := (-1 : Int32)) (pc := 24) dX1_makeSlide_24 (by decide) ?_
        cases h
        exact J_ireturn dX1_makeSlide_25 rfl rfl rfl rfl rfl
set_option maxHeartbeats 4000000 in
set_option maxRecDepth 100000 in
theorem k_X1_unmakeSlide {E : En} (M : Wd) {r : Int32} {M' : Wd} (h : F_X1_unmakeSlide M = some (r, M')) : Con E mi_X1_unmakeSlide [.ref 1] M (.inl (some (.int r))) M' := by
  unfold F_X1_unmakeSlide at h
  refine Con.of (by decide) rfl (Nat.le_of_ble_eq_true rfl) (fun κ => ?_)
  show J κ E mi_X1_unmakeSlide _ 0 0 [(0, .ref 1)] M 0 []
  refine J_aload_n (pc := 0) dX1_unmakeSlide_0 rfl 0 rfl ?_
  refine J_aload_n (pc := 1) dX1_unmakeSlide_1 rfl 0 rfl ?_
  refine get_1_7 (pc := 2) w_64 dX1_unmakeSlide_2 ?_
  refine J_iconst (v := (1 : Int32)) (pc := 5) dX1_unmakeSlide_5 (by decide) ?_
  refine J_isub (pc := 6) dX1_unmakeSlide_6 ?_
  refine J_callV (g := mi_X1_hasSlide) (ci := 1) (pc := 7) [.int ((M.1 1 7) - (1 : Int32))] [] mv_X1_hasSlide w_617 (k_X1_hasSlide  ((M.1 1 7) - (1 : Int32)) _) rfl (by decide) rfl rfl rfl ⟨⟨Nat.le_of_ble_eq_true rfl, Nat.le_of_ble_eq_true rfl⟩, Nat.le_of_ble_eq_true rfl, Nat.le_of_ble_eq_true rfl⟩ (Nat.le_of_ble_eq_true rfl) dX1_unmakeSlide_7 (Jk_v rfl rfl fun hok1 => ?_)
  refine J_if_ne (pc := 10) (tgt := 15) dX1_unmakeSlide_10 (by decide) (fun c2 => ?_) (fun c2 => ?_)
  · replace h := ifn c2 h
    refine J_aload_n (pc := 15) dX1_unmakeSlide_15 rfl 0 rfl ?_
    refine J_dup (pc := 16) dX1_unmakeSlide_16 rfl ?_
    refine get_1_7 (pc := 17) w_64 dX1_unmakeSlide_17 ?_
    refine J_iconst (v := (1 : Int32)) (pc := 20) dX1_unmakeSlide_20 (by decide) ?_
    refine J_isub (pc := 21) dX1_unmakeSlide_21 ?_
    refine put_1_7 (pc := 22) w_64 dX1_unmakeSlide_22 ?_
    refine J_aload_n (pc := 25) dX1_unmakeSlide_25 rfl 0 rfl ?_
    refine get_1_3 (pc := 26) w_56 dX1_unmakeSlide_26 ?_
    refine J_aload_n (pc := 29) dX1_unmakeSlide_29 rfl 0 rfl ?_
    refine get_1_7 (pc := 30) w_64 dX1_unmakeSlide_30 ?_
    refine J_topi (y := ((M.1 1 7) - (1 : Int32))) (Eq.symm (show (upI M 1 7 ((M.1 1 7) - (1 : Int32))).1 1 7 = ((M.1 1 7) - (1 : Int32)) from eI_kk)) ?_
    obtain ⟨v3, e4, hk5, h⟩ := ldi_e h
    refine J_iald (c := 5) (N := 60) (pc := 33) ja_5 (Nat.le_of_ble_eq_true rfl) hk5 dX1_unmakeSlide_33 ?_
    refine J_topi (e4.trans (congrFun (Eq.symm (show (upI M 1 7 ((M.1 1 7) - (1 : Int32))).1 5 = M.1 5 from (rI_ne (Nat.ne_of_beq_eq_false rfl) rfl))) _)) ?_
    refine J_istore_n (pc := 34) dX1_unmakeSlide_34 rfl (Nat.le_of_ble_eq_true rfl) [1, 0] rfl ?_
    refine J_aload_n (pc := 35) dX1_unmakeSlide_35 rfl 0 rfl ?_
    refine J_iload_n (pc := 36) dX1_unmakeSlide_36 rfl 1 rfl ?_
    refine J_callV (g := mi_X1_hasCar) (ci := 1) (pc := 37) [.int v3] [] mv_X1_hasCar w_227 (k_X1_hasCar  v3 _) rfl (by decide) rfl rfl rfl ⟨⟨Nat.le_of_ble_eq_true rfl, Nat.le_of_ble_eq_true rfl⟩, Nat.le_of_ble_eq_true rfl, Nat.le_of_ble_eq_true rfl⟩ (Nat.le_of_ble_eq_true rfl) dX1_unmakeSlide_37 (Jk_v rfl rfl fun hok6 => ?_)
    obtain ⟨M7, hv16, h⟩ := obind_e h
    refine J_join [(1, .int v3)] M7 61 [] ?_ (fun hJ => ?_)
    · refine J_iload_n (pc := 61) dX1_unmakeSlide_61 rfl 0 rfl ?_
      cases h
      exact J_ireturn dX1_unmakeSlide_62 rfl rfl rfl rfl rfl
    · replace h := hv16
      refine J_if_eq (pc := 40) (tgt := 61) dX1_unmakeSlide_40 (by decide) (fun c8 => ?_) (fun c8 => ?_)
      · replace h := ifp c8 h
        cases h
        refine J_sub [1] rfl ?_
        exact hJ
      · replace h := ifn c8 h
        refine J_aload_n (pc := 43) dX1_unmakeSlide_43 rfl 0 rfl ?_
        refine get_1_1 (pc := 44) w_50 dX1_unmakeSlide_44 ?_
        refine J_iload_n (pc := 47) dX1_unmakeSlide_47 rfl 1 rfl ?_
        refine J_dup2 (pc := 48) dX1_unmakeSlide_48 rfl rfl ?_
        obtain ⟨v9, e10, hk11, h⟩ := ldi_e h
        refine J_iald (c := 3) (N := 6) (pc := 49) ja_3 (Nat.le_of_ble_eq_true rfl) hk11 dX1_unmakeSlide_49 ?_
        refine J_topi (e10.trans (congrFun (Eq.symm (show (upI M 1 7 ((M.1 1 7) - (1 : Int32))).1 3 = M.1 3 from (rI_ne (Nat.ne_of_beq_eq_false rfl) rfl))) _)) ?_
        refine J_aload_n (pc := 50) dX1_unmakeSlide_50 rfl 0 rfl ?_
        refine get_1_4 (pc := 51) w_58 dX1_unmakeSlide_51 ?_
        refine J_aload_n (pc := 54) dX1_unmakeSlide_54 rfl 0 rfl ?_
        refine get_1_7 (pc := 55) w_64 dX1_unmakeSlide_55 ?_
        refine J_topi (y := ((M.1 1 7) - (1 : Int32))) (Eq.symm (show (upI M 1 7 ((M.1 1 7) - (1 : Int32))).1 1 7 = ((M.1 1 7) - (1 : Int32)) from eI_kk)) ?_
        obtain ⟨v12, e13, hk14, h⟩ := ldi_e h
        refine J_iald (c := 6) (N := 60) (pc := 58) ja_6 (Nat.le_of_ble_eq_true rfl) hk14 dX1_unmakeSlide_58 ?_
        refine J_topi (e13.trans (congrFun (Eq.symm (show (upI M 1 7 ((M.1 1 7) - (1 : Int32))).1 6 = M.1 6 from (rI_ne (Nat.ne_of_beq_eq_false rfl) rfl))) _)) ?_
        refine J_isub (pc := 59) dX1_unmakeSlide_59 ?_
        obtain ⟨hk15, h⟩ := inb_e h
        refine J_iast (c := 3) (N := 6) (pc := 60) (fun _ => ja_3) (Nat.le_of_ble_eq_true rfl) hk15 dX1_unmakeSlide_60 ?_
        cases h
        refine J_sub [1] rfl ?_
        exact hJ
  · replace h := ifp c2 h
    refine J_iconst (v := (-1 : Int32)) (pc := 13) dX1_unmakeSlide_13 (by decide) ?_
    cases h
    exact J_ireturn dX1_unmakeSlide_14 rfl rfl rfl rfl rfl
set_option maxHeartbeats 4000000 in
set_option maxRecDepth 100000 in
theorem kL_X1_loggedSteps_L4 {κ : Kx} {E : En} {Q : State → Prop} {ρ : Type} {r : ρ} (a1 : Int32) (M : Wd) (K46 : Int32 → Option ρ) (hK46 : ∀ (x2 : Int32), K46 x2 = some r → J κ E mi_X1_loggedSteps Q 0 0 [(2, .int x2)] M 46 []) : ∀ (m : Nat) (x2 : Int32) (x3 : Int32), F_X1_loggedSteps_L4 a1 M K46 m x2 x3 = some r → J κ E mi_X1_loggedSteps Q 0 0 [(0, .ref 1), (1, .int a1), (2, .int x2), (3, .int x3)] M 4 [] := by
  intro m
  induction m with
  | zero => intro x2 x3 h; exact (nomatch (show (none : Option ρ) = some r from h))
  | succ m ih =>
    intro x2 x3 h
    unfold F_X1_loggedSteps_L4 at h
    refine J_iload_n (pc := 4) dX1_loggedSteps_4 rfl 3 rfl ?_
    refine J_aload_n (pc := 5) dX1_loggedSteps_5 rfl 0 rfl ?_
    refine get_1_7 (pc := 6) w_64 dX1_loggedSteps_6 ?_
    refine J_icmp_ge (pc := 9) (tgt := 46) dX1_loggedSteps_9 (by decide) (fun c1 => ?_) (fun c1 => ?_)
    · replace h := ifp c1 h
      refine J_sub [2] rfl ?_
      exact hK46 _ h
    · replace h := ifn c1 h
      refine J_iload_n (pc := 12) dX1_loggedSteps_12 rfl 3 rfl ?_
      refine J_bipush (v := (60 : Int32)) (pc := 13) dX1_loggedSteps_13 (by decide) ?_
      refine J_icmp_ge (pc := 15) (tgt := 46) dX1_loggedSteps_15 (by decide) (fun c2 => ?_) (fun c2 => ?_)
      · replace h := ifp c2 h
        refine J_sub [2] rfl ?_
        exact hK46 _ h
      · replace h := ifn c2 h
        refine J_aload_n (pc := 18) dX1_loggedSteps_18 rfl 0 rfl ?_
        refine get_1_3 (pc := 19) w_56 dX1_loggedSteps_19 ?_
        refine J_iload_n (pc := 22) dX1_loggedSteps_22 rfl 3 rfl ?_
        obtain ⟨v3, e4, hk5, h⟩ := ldi_e h
        refine J_iald (c := 5) (N := 60) (pc := 23) ja_5 (Nat.le_of_ble_eq_true rfl) hk5 dX1_loggedSteps_23 ?_
        refine J_topi e4 ?_
        refine J_iload_n (pc := 24) dX1_loggedSteps_24 rfl 1 rfl ?_
        obtain ⟨v6, hv13, h⟩ := obind_e h
        refine J_join [(0, .ref 1), (1, .int a1), (2, .int v6), (3, .int x3)] M 40 [] ?_ (fun hJ => ?_)
        · obtain ⟨v14, e15, h⟩ := bnd_e h
          refine J_iinc (v := v14) (pc := 40) dX1_loggedSteps_40 3 rfl (by rw [e15]; rfl) (Nat.le_of_ble_eq_true rfl) [1, 2, 3, 0] rfl ?_
          refine J_goto (pc := 43) (tgt := 4) dX1_loggedSteps_43 (by decide) ?_
          exact ih _ _ h
        · replace h := hv13
          refine J_icmp_ne (pc := 25) (tgt := 40) dX1_loggedSteps_25 (by decide) (fun c7 => ?_) (fun c7 => ?_)
          · replace h := ifn c7 h
            cases h
            exact hJ
          · replace h := ifp c7 h
            refine J_iload_n (pc := 28) dX1_loggedSteps_28 rfl 2 rfl ?_
            refine J_aload_n (pc := 29) dX1_loggedSteps_29 rfl 0 rfl ?_
            refine get_1_4 (pc := 30) w_58 dX1_loggedSteps_30 ?_
            refine J_iload_n (pc := 33) dX1_loggedSteps_33 rfl 3 rfl ?_
            obtain ⟨v8, e9, hk10, h⟩ := ldi_e h
            refine J_iald (c := 6) (N := 60) (pc := 34) ja_6 (Nat.le_of_ble_eq_true rfl) hk10 dX1_loggedSteps_34 ?_
            refine J_topi e9 ?_
            refine J_mabs (pc := 35) w_239 w_241 w_240 w_31 (Nat.le_of_ble_eq_true rfl) (Nat.le_of_ble_eq_true rfl) (Nat.le_of_ble_eq_true rfl) (Nat.le_of_ble_eq_true rfl) dX1_loggedSteps_35 ?_
            refine J_iadd (pc := 38) dX1_loggedSteps_38 ?_
            obtain ⟨v11, e12, h⟩ := bnd_e h
            refine J_topi e12 ?_
            refine J_istore_n (pc := 39) dX1_loggedSteps_39 rfl (Nat.le_of_ble_eq_true rfl) [1, 2, 0, 3] rfl ?_
            cases h
            exact hJ
set_option maxHeartbeats 4000000 in
set_option maxRecDepth 100000 in
theorem k_X1_loggedSteps {E : En} (a1 : Int32) (M : Wd) {r : Int32} (h : F_X1_loggedSteps a1 M = some r) : Con E mi_X1_loggedSteps [.ref 1, .int a1] M (.inl (some (.int r))) M := by
  unfold F_X1_loggedSteps at h
  refine Con.of (by decide) rfl (Nat.le_of_ble_eq_true rfl) (fun κ => ?_)
  show J κ E mi_X1_loggedSteps _ 0 0 [(0, .ref 1), (1, .int a1)] M 0 []
  refine J_iconst (v := (0 : Int32)) (pc := 0) dX1_loggedSteps_0 (by decide) ?_
  refine J_istore_n (pc := 1) dX1_loggedSteps_1 rfl (Nat.le_of_ble_eq_true rfl) [1, 2, 0] rfl ?_
  refine J_iconst (v := (0 : Int32)) (pc := 2) dX1_loggedSteps_2 (by decide) ?_
  refine J_istore_n (pc := 3) dX1_loggedSteps_3 rfl (Nat.le_of_ble_eq_true rfl) [1, 2, 3, 0] rfl ?_
  refine J_LS [(0, .ref 1), (1, .int a1), (2, .int (0 : Int32)), (3, .int (0 : Int32))] [] rfl rfl ?_
  refine kL_X1_loggedSteps_L4 _ _ _ (fun v16 h => ?_) fuelN _ _ h
  refine J_iload_n (pc := 46) dX1_loggedSteps_46 rfl 0 rfl ?_
  cases h
  exact J_ireturn dX1_loggedSteps_47 rfl rfl rfl rfl rfl
set_option maxHeartbeats 4000000 in
set_option maxRecDepth 100000 in
theorem kL_X1_fuelSlideBySlide_L4 {κ : Kx} {E : En} {Q : State → Prop} {ρ : Type} {r : ρ} (M : Wd) (K62 : Int32 → Option ρ) (hK62 : ∀ (x1 : Int32), K62 x1 = some r → J κ E mi_X1_fuelSlideBySlide Q 0 0 [(1, .int x1)] M 62 []) : ∀ (m : Nat) (x1 : Int32) (x2 : Int32), F_X1_fuelSlideBySlide_L4 M K62 m x1 x2 = some r → J κ E mi_X1_fuelSlideBySlide Q 0 0 [(0, .ref 1), (1, .int x1), (2, .int x2)] M 4 [] := by
  intro m
  induction m with
  | zero => intro x1 x2 h; exact (nomatch (show (none : Option ρ) = some r from h))
  | succ m ih =>
    intro x1 x2 h
    unfold F_X1_fuelSlideBySlide_L4 at h
    refine J_iload_n (pc := 4) dX1_fuelSlideBySlide_4 rfl 2 rfl ?_
    refine J_aload_n (pc := 5) dX1_fuelSlideBySlide_5 rfl 0 rfl ?_
    refine get_1_7 (pc := 6) w_64 dX1_fuelSlideBySlide_6 ?_
    refine J_icmp_ge (pc := 9) (tgt := 62) dX1_fuelSlideBySlide_9 (by decide) (fun c1 => ?_) (fun c1 => ?_)
    · replace h := ifp c1 h
      refine J_sub [1] rfl ?_
      exact hK62 _ h
    · replace h := ifn c1 h
      refine J_iload_n (pc := 12) dX1_fuelSlideBySlide_12 rfl 2 rfl ?_
      refine J_bipush (v := (60 : Int32)) (pc := 13) dX1_fuelSlideBySlide_13 (by decide) ?_
      refine J_icmp_ge (pc := 15) (tgt := 62) dX1_fuelSlideBySlide_15 (by decide) (fun c2 => ?_) (fun c2 => ?_)
      · replace h := ifp c2 h
        refine J_sub [1] rfl ?_
        exact hK62 _ h
      · replace h := ifn c2 h
        refine J_aload_n (pc := 18) dX1_fuelSlideBySlide_18 rfl 0 rfl ?_
        refine get_1_3 (pc := 19) w_56 dX1_fuelSlideBySlide_19 ?_
        refine J_iload_n (pc := 22) dX1_fuelSlideBySlide_22 rfl 2 rfl ?_
        obtain ⟨v3, e4, hk5, h⟩ := ldi_e h
        refine J_iald (c := 5) (N := 60) (pc := 23) ja_5 (Nat.le_of_ble_eq_true rfl) hk5 dX1_fuelSlideBySlide_23 ?_
        refine J_topi e4 ?_
        refine J_istore_n (pc := 24) dX1_fuelSlideBySlide_24 rfl (Nat.le_of_ble_eq_true rfl) [1, 2, 3, 0] rfl ?_
        refine J_iload_n (pc := 25) dX1_fuelSlideBySlide_25 rfl 1 rfl ?_
        refine J_aload_n (pc := 26) dX1_fuelSlideBySlide_26 rfl 0 rfl ?_
        refine J_iload_n (pc := 27) dX1_fuelSlideBySlide_27 rfl 3 rfl ?_
        refine J_callV (g := mi_X1_hasCar) (ci := 1) (pc := 28) [.int v3] [.int x1] mv_X1_hasCar w_227 (k_X1_hasCar  v3 _) rfl (by decide) rfl rfl rfl ⟨⟨Nat.le_of_ble_eq_true rfl, Nat.le_of_ble_eq_true rfl⟩, Nat.le_of_ble_eq_true rfl, Nat.le_of_ble_eq_true rfl⟩ (Nat.le_of_ble_eq_true rfl) dX1_fuelSlideBySlide_28 (Jk_v rfl rfl fun hok6 => ?_)
        obtain ⟨v7, hv15, h⟩ := obind_e h
        refine J_join [(0, .ref 1), (2, .int x2)] M 54 [.int v7, .int x1] ?_ (fun hJ => ?_)
        · refine J_iadd (pc := 54) dX1_fuelSlideBySlide_54 ?_
          obtain ⟨v16, e17, h⟩ := bnd_e h
          refine J_topi e17 ?_
          refine J_istore_n (pc := 55) dX1_fuelSlideBySlide_55 rfl (Nat.le_of_ble_eq_true rfl) [1, 0, 2] rfl ?_
          obtain ⟨v18, e19, h⟩ := bnd_e h
          refine J_iinc (v := v18) (pc := 56) dX1_fuelSlideBySlide_56 2 rfl (by rw [e19]; rfl) (Nat.le_of_ble_eq_true rfl) [1, 2, 0] rfl ?_
          refine J_LS [(0, .ref 1), (1, .int v16), (2, .int v18)] [] rfl rfl ?_
          refine J_goto (pc := 59) (tgt := 4) dX1_fuelSlideBySlide_59 (by decide) ?_
          exact ih _ _ h
        · replace h := hv15
          refine J_if_eq (pc := 31) (tgt := 53) dX1_fuelSlideBySlide_31 (by decide) (fun c8 => ?_) (fun c8 => ?_)
          · replace h := ifp c8 h
            refine J_iconst (v := (0 : Int32)) (pc := 53) dX1_fuelSlideBySlide_53 (by decide) ?_
            cases h
            refine J_sub [0, 2] rfl ?_
            exact hJ
          · replace h := ifn c8 h
            refine J_aload_n (pc := 34) dX1_fuelSlideBySlide_34 rfl 0 rfl ?_
            refine get_1_4 (pc := 35) w_58 dX1_fuelSlideBySlide_35 ?_
            refine J_iload_n (pc := 38) dX1_fuelSlideBySlide_38 rfl 2 rfl ?_
            obtain ⟨v9, e10, hk11, h⟩ := ldi_e h
            refine J_iald (c := 6) (N := 60) (pc := 39) ja_6 (Nat.le_of_ble_eq_true rfl) hk11 dX1_fuelSlideBySlide_39 ?_
            refine J_topi e10 ?_
            refine J_mabs (pc := 40) w_239 w_241 w_240 w_31 (Nat.le_of_ble_eq_true rfl) (Nat.le_of_ble_eq_true rfl) (Nat.le_of_ble_eq_true rfl) (Nat.le_of_ble_eq_true rfl) dX1_fuelSlideBySlide_40 ?_
            refine J_aload_n (pc := 43) dX1_fuelSlideBySlide_43 rfl 0 rfl ?_
            refine get_1_2 (pc := 44) w_53 dX1_fuelSlideBySlide_44 ?_
            refine J_iload_n (pc := 47) dX1_fuelSlideBySlide_47 rfl 3 rfl ?_
            obtain ⟨v12, e13, hk14, h⟩ := ldi_e h
            refine J_iald (c := 4) (N := 6) (pc := 48) ja_4 (Nat.le_of_ble_eq_true rfl) hk14 dX1_fuelSlideBySlide_48 ?_
            refine J_topi e13 ?_
            refine J_imul (pc := 49) dX1_fuelSlideBySlide_49 ?_
            refine J_goto (pc := 50) (tgt := 54) dX1_fuelSlideBySlide_50 (by decide) ?_
            cases h
            refine J_sub [0, 2] rfl ?_
            exact hJ
set_option maxHeartbeats 4000000 in
set_option maxRecDepth 100000 in
theorem k_X1_fuelSlideBySlide {E : En} (M : Wd) {r : Int32} (h : F_X1_fuelSlideBySlide M = some r) : Con E mi_X1_fuelSlideBySlide [.ref 1] M (.inl (some (.int r))) M := by
  unfold F_X1_fuelSlideBySlide at h
  refine Con.of (by decide) rfl (Nat.le_of_ble_eq_true rfl) (fun κ => ?_)
  show J κ E mi_X1_fuelSlideBySlide _ 0 0 [(0, .ref 1)] M 0 []
  refine J_iconst (v := (0 : Int32)) (pc := 0) dX1_fuelSlideBySlide_0 (by decide) ?_
  refine J_istore_n (pc := 1) dX1_fuelSlideBySlide_1 rfl (Nat.le_of_ble_eq_true rfl) [1, 0] rfl ?_
  refine J_iconst (v := (0 : Int32)) (pc := 2) dX1_fuelSlideBySlide_2 (by decide) ?_
  refine J_istore_n (pc := 3) dX1_fuelSlideBySlide_3 rfl (Nat.le_of_ble_eq_true rfl) [1, 2, 0] rfl ?_
  refine J_LS [(0, .ref 1), (1, .int (0 : Int32)), (2, .int (0 : Int32))] [] rfl rfl ?_
  refine kL_X1_fuelSlideBySlide_L4 _ _ (fun v20 h => ?_) fuelN _ _ h
  refine J_iload_n (pc := 62) dX1_fuelSlideBySlide_62 rfl 0 rfl ?_
  cases h
  exact J_ireturn dX1_fuelSlideBySlide_63 rfl rfl rfl rfl rfl
set_option maxHeartbeats 4000000 in
set_option maxRecDepth 100000 in
theorem kL_X1_fuelCarByCar_L4 {κ : Kx} {E : En} {Q : State → Prop} {ρ : Type} {r : ρ} (M : Wd) (K39 : Int32 → Option ρ) (hK39 : ∀ (x1 : Int32), K39 x1 = some r → J κ E mi_X1_fuelCarByCar Q 0 0 [(1, .int x1)] M 39 []) : ∀ (m : Nat) (x1 : Int32) (x2 : Int32), F_X1_fuelCarByCar_L4 M K39 m x1 x2 = some r → J κ E mi_X1_fuelCarByCar Q 0 0 [(0, .ref 1), (1, .int x1), (2, .int x2)] M 4 [] := by
  intro m
  induction m with
  | zero => intro x1 x2 h; exact (nomatch (show (none : Option ρ) = some r from h))
  | succ m ih =>
    intro x1 x2 h
    unfold F_X1_fuelCarByCar_L4 at h
    refine J_iload_n (pc := 4) dX1_fuelCarByCar_4 rfl 2 rfl ?_
    refine J_aload_n (pc := 5) dX1_fuelCarByCar_5 rfl 0 rfl ?_
    refine get_1_5 (pc := 6) w_60 dX1_fuelCarByCar_6 ?_
    refine J_icmp_ge (pc := 9) (tgt := 39) dX1_fuelCarByCar_9 (by decide) (fun c1 => ?_) (fun c1 => ?_)
    · replace h := ifp c1 h
      refine J_sub [1] rfl ?_
      exact hK39 _ h
    · replace h := ifn c1 h
      refine J_iload_n (pc := 12) dX1_fuelCarByCar_12 rfl 2 rfl ?_
      refine J_bipush (v := (6 : Int32)) (pc := 13) dX1_fuelCarByCar_13 (by decide) ?_
      refine J_icmp_ge (pc := 15) (tgt := 39) dX1_fuelCarByCar_15 (by decide) (fun c2 => ?_) (fun c2 => ?_)
      · replace h := ifp c2 h
        refine J_sub [1] rfl ?_
        exact hK39 _ h
      · replace h := ifn c2 h
        refine J_iload_n (pc := 18) dX1_fuelCarByCar_18 rfl 1 rfl ?_
        refine J_aload_n (pc := 19) dX1_fuelCarByCar_19 rfl 0 rfl ?_
        refine J_iload_n (pc := 20) dX1_fuelCarByCar_20 rfl 2 rfl ?_
        obtain ⟨v3, hc4, h⟩ := obind_e h
        refine J_callV (g := mi_X1_loggedSteps) (ci := 1) (pc := 21) [.int x2] [.int x1] mv_X1_loggedSteps w_246 (k_X1_loggedSteps  x2 _ hc4) rfl (by decide) rfl rfl rfl ⟨⟨Nat.le_of_ble_eq_true rfl, Nat.le_of_ble_eq_true rfl⟩, Nat.le_of_ble_eq_true rfl, Nat.le_of_ble_eq_true rfl⟩ (Nat.le_of_ble_eq_true rfl) dX1_fuelCarByCar_21 (Jk_v rfl rfl fun hok5 => ?_)
        refine J_aload_n (pc := 24) dX1_fuelCarByCar_24 rfl 0 rfl ?_
        refine get_1_2 (pc := 25) w_53 dX1_fuelCarByCar_25 ?_
        refine J_iload_n (pc := 28) dX1_fuelCarByCar_28 rfl 2 rfl ?_
        obtain ⟨v6, e7, hk8, h⟩ := ldi_e h
        refine J_iald (c := 4) (N := 6) (pc := 29) ja_4 (Nat.le_of_ble_eq_true rfl) hk8 dX1_fuelCarByCar_29 ?_
        refine J_topi e7 ?_
        refine J_imul (pc := 30) dX1_fuelCarByCar_30 ?_
        refine J_iadd (pc := 31) dX1_fuelCarByCar_31 ?_
        obtain ⟨v9, e10, h⟩ := bnd_e h
        refine J_topi e10 ?_
        refine J_istore_n (pc := 32) dX1_fuelCarByCar_32 rfl (Nat.le_of_ble_eq_true rfl) [1, 0, 2] rfl ?_
        obtain ⟨v11, e12, h⟩ := bnd_e h
        refine J_iinc (v := v11) (pc := 33) dX1_fuelCarByCar_33 2 rfl (by rw [e12]; rfl) (Nat.le_of_ble_eq_true rfl) [1, 2, 0] rfl ?_
        refine J_LS [(0, .ref 1), (1, .int v9), (2, .int v11)] [] rfl rfl ?_
        refine J_goto (pc := 36) (tgt := 4) dX1_fuelCarByCar_36 (by decide) ?_
        exact ih _ _ h
set_option maxHeartbeats 4000000 in
set_option maxRecDepth 100000 in
theorem k_X1_fuelCarByCar {E : En} (M : Wd) {r : Int32} (h : F_X1_fuelCarByCar M = some r) : Con E mi_X1_fuelCarByCar [.ref 1] M (.inl (some (.int r))) M := by
  unfold F_X1_fuelCarByCar at h
  refine Con.of (by decide) rfl (Nat.le_of_ble_eq_true rfl) (fun κ => ?_)
  show J κ E mi_X1_fuelCarByCar _ 0 0 [(0, .ref 1)] M 0 []
  refine J_iconst (v := (0 : Int32)) (pc := 0) dX1_fuelCarByCar_0 (by decide) ?_
  refine J_istore_n (pc := 1) dX1_fuelCarByCar_1 rfl (Nat.le_of_ble_eq_true rfl) [1, 0] rfl ?_
  refine J_iconst (v := (0 : Int32)) (pc := 2) dX1_fuelCarByCar_2 (by decide) ?_
  refine J_istore_n (pc := 3) dX1_fuelCarByCar_3 rfl (Nat.le_of_ble_eq_true rfl) [1, 2, 0] rfl ?_
  refine J_LS [(0, .ref 1), (1, .int (0 : Int32)), (2, .int (0 : Int32))] [] rfl rfl ?_
  refine kL_X1_fuelCarByCar_L4 _ _ (fun v13 h => ?_) fuelN _ _ h
  refine J_iload_n (pc := 39) dX1_fuelCarByCar_39 rfl 0 rfl ?_
  cases h
  exact J_ireturn dX1_fuelCarByCar_40 rfl rfl rfl rfl rfl
set_option maxHeartbeats 4000000 in
set_option maxRecDepth 100000 in
theorem k_X2_add {E : En} (a1 : Int32) (M : Wd) {r : Int32} {M' : Wd} (h : F_X2_add a1 M = some (r, M')) : Con E mi_X2_add [.ref 51, .int a1] M (.inl (some (.int r))) M' := by
  unfold F_X2_add at h
  refine Con.of (by decide) rfl (Nat.le_of_ble_eq_true rfl) (fun κ => ?_)
  show J κ E mi_X2_add _ 0 0 [(0, .ref 51), (1, .int a1)] M 0 []
  refine J_aload_n (pc := 0) dX2_add_0 rfl 0 rfl ?_
  refine get_51_1 (pc := 1) w_147 dX2_add_1 ?_
  obtain ⟨M1, hv5, h⟩ := obind_e h
  refine J_join [(0, .ref 51)] M1 36 [] ?_ (fun hJ => ?_)
  · refine J_aload_n (pc := 36) dX2_add_36 rfl 0 rfl ?_
    refine get_51_1 (pc := 37) w_147 dX2_add_37 ?_
    cases h
    exact J_ireturn dX2_add_40 rfl rfl rfl rfl rfl
  · replace h := hv5
    refine J_if_lt (pc := 4) (tgt := 36) dX2_add_4 (by decide) (fun c2 => ?_) (fun c2 => ?_)
    · replace h := ifp c2 h
      cases h
      refine J_sub [0] rfl ?_
      exact hJ
    · replace h := ifn c2 h
      refine J_aload_n (pc := 7) dX2_add_7 rfl 0 rfl ?_
      refine get_51_1 (pc := 8) w_147 dX2_add_8 ?_
      refine J_bipush (v := (60 : Int32)) (pc := 11) dX2_add_11 (by decide) ?_
      refine J_icmp_ge (pc := 13) (tgt := 36) dX2_add_13 (by decide) (fun c3 => ?_) (fun c3 => ?_)
      · replace h := ifp c3 h
        cases h
        refine J_sub [0] rfl ?_
        exact hJ
      · replace h := ifn c3 h
        refine J_aload_n (pc := 16) dX2_add_16 rfl 0 rfl ?_
        refine get_51_0 (pc := 17) w_146 dX2_add_17 ?_
        refine J_aload_n (pc := 20) dX2_add_20 rfl 0 rfl ?_
        refine get_51_1 (pc := 21) w_147 dX2_add_21 ?_
        refine J_iload_n (pc := 24) dX2_add_24 rfl 1 rfl ?_
        obtain ⟨hk4, h⟩ := inb_e h
        refine J_iast (c := 52) (N := 60) (pc := 25) (fun _ => ja_52) (Nat.le_of_ble_eq_true rfl) hk4 dX2_add_25 ?_
        refine J_aload_n (pc := 26) dX2_add_26 rfl 0 rfl ?_
        refine J_dup (pc := 27) dX2_add_27 rfl ?_
        refine get_51_1 (pc := 28) w_147 dX2_add_28 ?_
        refine J_topi (y := (M.1 51 1)) (Eq.symm (show (upI M 52 (M.1 51 1).toNatClampNeg a1).1 51 1 = (M.1 51 1) from (eI_ne (Nat.ne_of_beq_eq_false rfl) rfl))) ?_
        refine J_iconst (v := (1 : Int32)) (pc := 31) dX2_add_31 (by decide) ?_
        refine J_iadd (pc := 32) dX2_add_32 ?_
        refine put_51_1 (pc := 33) w_147 dX2_add_33 ?_
        cases h
        refine J_sub [0] rfl ?_
        exact hJ
set_option maxHeartbeats 4000000 in
set_option maxRecDepth 100000 in
theorem k_X2_clear {E : En} (M : Wd) {r : Int32} {M' : Wd} (h : F_X2_clear M = some (r, M')) : Con E mi_X2_clear [.ref 51] M (.inl (some (.int r))) M' := by
  unfold F_X2_clear at h
  refine Con.of (by decide) rfl (Nat.le_of_ble_eq_true rfl) (fun κ => ?_)
  show J κ E mi_X2_clear _ 0 0 [(0, .ref 51)] M 0 []
  refine J_aload_n (pc := 0) dX2_clear_0 rfl 0 rfl ?_
  refine get_51_1 (pc := 1) w_147 dX2_clear_1 ?_
  obtain ⟨v1, e2, h⟩ := bnd_e h
  refine J_topi e2 ?_
  refine J_istore_n (pc := 4) dX2_clear_4 rfl (Nat.le_of_ble_eq_true rfl) [1, 0] rfl ?_
  refine J_aload_n (pc := 5) dX2_clear_5 rfl 0 rfl ?_
  refine J_iconst (v := (0 : Int32)) (pc := 6) dX2_clear_6 (by decide) ?_
  refine put_51_1 (pc := 7) w_147 dX2_clear_7 ?_
  refine J_iload_n (pc := 10) dX2_clear_10 rfl 1 rfl ?_
  cases h
  exact J_ireturn dX2_clear_11 rfl rfl rfl rfl rfl
set_option maxHeartbeats 4000000 in
set_option maxRecDepth 100000 in
theorem k_X2_codeAt {E : En} (a1 : Int32) (M : Wd) {r : Int32} (h : F_X2_codeAt a1 M = some r) : Con E mi_X2_codeAt [.ref 51, .int a1] M (.inl (some (.int r))) M := by
  unfold F_X2_codeAt at h
  refine Con.of (by decide) rfl (Nat.le_of_ble_eq_true rfl) (fun κ => ?_)
  show J κ E mi_X2_codeAt _ 0 0 [(0, .ref 51), (1, .int a1)] M 0 []
  refine J_iload_n (pc := 0) dX2_codeAt_0 rfl 1 rfl ?_
  refine J_if_lt (pc := 1) (tgt := 27) dX2_codeAt_1 (by decide) (fun c1 => ?_) (fun c1 => ?_)
  · replace h := ifp c1 h
    refine J_iconst (v := (0 : Int32)) (pc := 27) dX2_codeAt_27 (by decide) ?_
    cases h
    exact J_ireturn dX2_codeAt_28 rfl rfl rfl rfl rfl
  · replace h := ifn c1 h
    refine J_iload_n (pc := 4) dX2_codeAt_4 rfl 1 rfl ?_
    refine J_aload_n (pc := 5) dX2_codeAt_5 rfl 0 rfl ?_
    refine get_51_1 (pc := 6) w_147 dX2_codeAt_6 ?_
    refine J_icmp_ge (pc := 9) (tgt := 27) dX2_codeAt_9 (by decide) (fun c2 => ?_) (fun c2 => ?_)
    · replace h := ifp c2 h
      refine J_iconst (v := (0 : Int32)) (pc := 27) dX2_codeAt_27 (by decide) ?_
      cases h
      exact J_ireturn dX2_codeAt_28 rfl rfl rfl rfl rfl
    · replace h := ifn c2 h
      refine J_iload_n (pc := 12) dX2_codeAt_12 rfl 1 rfl ?_
      refine J_bipush (v := (60 : Int32)) (pc := 13) dX2_codeAt_13 (by decide) ?_
      refine J_icmp_ge (pc := 15) (tgt := 27) dX2_codeAt_15 (by decide) (fun c3 => ?_) (fun c3 => ?_)
      · replace h := ifp c3 h
        refine J_iconst (v := (0 : Int32)) (pc := 27) dX2_codeAt_27 (by decide) ?_
        cases h
        exact J_ireturn dX2_codeAt_28 rfl rfl rfl rfl rfl
      · replace h := ifn c3 h
        refine J_aload_n (pc := 18) dX2_codeAt_18 rfl 0 rfl ?_
        refine get_51_0 (pc := 19) w_146 dX2_codeAt_19 ?_
        refine J_iload_n (pc := 22) dX2_codeAt_22 rfl 1 rfl ?_
        obtain ⟨v4, e5, hk6, h⟩ := ldi_e h
        refine J_iald (c := 52) (N := 60) (pc := 23) ja_52 (Nat.le_of_ble_eq_true rfl) hk6 dX2_codeAt_23 ?_
        refine J_topi e5 ?_
        refine J_goto (pc := 24) (tgt := 28) dX2_codeAt_24 (by decide) ?_
        cases h
        exact J_ireturn dX2_codeAt_28 rfl rfl rfl rfl rfl
set_option maxHeartbeats 4000000 in
set_option maxRecDepth 100000 in
theorem k_X2_digitAt {E : En} (a1 : Int32) (M : Wd) {r : Int32} (h : F_X2_digitAt a1 M = some r) : Con E mi_X2_digitAt [.ref 51, .int a1] M (.inl (some (.int r))) M := by
  unfold F_X2_digitAt at h
  refine Con.of (by decide) rfl (Nat.le_of_ble_eq_true rfl) (fun κ => ?_)
  show J κ E mi_X2_digitAt _ 0 0 [(0, .ref 51), (1, .int a1)] M 0 []
  refine J_aload_n (pc := 0) dX2_digitAt_0 rfl 0 rfl ?_
  refine J_iload_n (pc := 1) dX2_digitAt_1 rfl 1 rfl ?_
  obtain ⟨v1, hc2, h⟩ := obind_e h
  refine J_callV (g := mi_X2_codeAt) (ci := 2) (pc := 2) [.int a1] [] mv_X2_codeAt w_671 (k_X2_codeAt  a1 _ hc2) rfl (by decide) rfl rfl rfl ⟨⟨Nat.le_of_ble_eq_true rfl, Nat.le_of_ble_eq_true rfl⟩, Nat.le_of_ble_eq_true rfl, Nat.le_of_ble_eq_true rfl⟩ (Nat.le_of_ble_eq_true rfl) dX2_digitAt_2 (Jk_v rfl rfl fun hok3 => ?_)
  refine J_bipush (v := (48 : Int32)) (pc := 5) dX2_digitAt_5 (by decide) ?_
  refine J_isub (pc := 7) dX2_digitAt_7 ?_
  cases h
  exact J_ireturn dX2_digitAt_8 rfl rfl rfl rfl rfl
set_option maxHeartbeats 4000000 in
set_option maxRecDepth 100000 in
theorem k_X2_signAt {E : En} (a1 : Int32) (M : Wd) {r : Int32} (h : F_X2_signAt a1 M = some r) : Con E mi_X2_signAt [.ref 51, .int a1] M (.inl (some (.int r))) M := by
  unfold F_X2_signAt at h
  refine Con.of (by decide) rfl (Nat.le_of_ble_eq_true rfl) (fun κ => ?_)
  show J κ E mi_X2_signAt _ 0 0 [(0, .ref 51), (1, .int a1)] M 0 []
  refine J_aload_n (pc := 0) dX2_signAt_0 rfl 0 rfl ?_
  refine J_iload_n (pc := 1) dX2_signAt_1 rfl 1 rfl ?_
  obtain ⟨v1, hc2, h⟩ := obind_e h
  refine J_callV (g := mi_X2_codeAt) (ci := 2) (pc := 2) [.int a1] [] mv_X2_codeAt w_671 (k_X2_codeAt  a1 _ hc2) rfl (by decide) rfl rfl rfl ⟨⟨Nat.le_of_ble_eq_true rfl, Nat.le_of_ble_eq_true rfl⟩, Nat.le_of_ble_eq_true rfl, Nat.le_of_ble_eq_true rfl⟩ (Nat.le_of_ble_eq_true rfl) dX2_signAt_2 (Jk_v rfl rfl fun hok3 => ?_)
  refine J_bipush (v := (45 : Int32)) (pc := 5) dX2_signAt_5 (by decide) ?_
  refine J_icmp_ne (pc := 7) (tgt := 14) dX2_signAt_7 (by decide) (fun c4 => ?_) (fun c4 => ?_)
  · replace h := ifn c4 h
    refine J_iconst (v := (1 : Int32)) (pc := 14) dX2_signAt_14 (by decide) ?_
    cases h
    exact J_ireturn dX2_signAt_15 rfl rfl rfl rfl rfl
  · replace h := ifp c4 h
    refine J_iconst (v := (-1 : Int32)) (pc := 10) dX2_signAt_10 (by decide) ?_
    refine J_goto (pc := 11) (tgt := 15) dX2_signAt_11 (by decide) ?_
    cases h
    exact J_ireturn dX2_signAt_15 rfl rfl rfl rfl rfl
set_option maxHeartbeats 4000000 in
set_option maxRecDepth 100000 in
theorem k_X2_isAmong {E : En} (a0 : Int32) (a1 : Int32) (a2 : Int32) (M : Wd) : Con E mi_X2_isAmong [.int a0, .int a1, .int a2] M (.inl (some (.int (F_X2_isAmong a0 a1 a2)))) M := by
  obtain ⟨r, h⟩ : ∃ r, F_X2_isAmong a0 a1 a2 = r := ⟨_, rfl⟩
  rw [h]
  unfold F_X2_isAmong at h
  refine Con.of (by decide) rfl (Nat.le_of_ble_eq_true rfl) (fun κ => ?_)
  show J κ E mi_X2_isAmong _ 0 0 [(0, .int a0), (1, .int a1), (2, .int a2)] M 0 []
  refine J_iload_n (pc := 0) dX2_isAmong_0 rfl 0 rfl ?_
  refine J_iload_n (pc := 1) dX2_isAmong_1 rfl 1 rfl ?_
  refine J_icmp_lt (pc := 2) (tgt := 14) dX2_isAmong_2 (by decide) (fun c1 => ?_) (fun c1 => ?_)
  · replace h := ifp c1 h
    refine J_iconst (v := (0 : Int32)) (pc := 14) dX2_isAmong_14 (by decide) ?_
    subst h
    exact J_zreturn dX2_isAmong_15 rfl (Or.inl rfl) rfl rfl rfl rfl
  · replace h := ifn c1 h
    refine J_iload_n (pc := 5) dX2_isAmong_5 rfl 0 rfl ?_
    refine J_iload_n (pc := 6) dX2_isAmong_6 rfl 2 rfl ?_
    refine J_icmp_gt (pc := 7) (tgt := 14) dX2_isAmong_7 (by decide) (fun c2 => ?_) (fun c2 => ?_)
    · replace h := ifp c2 h
      refine J_iconst (v := (0 : Int32)) (pc := 14) dX2_isAmong_14 (by decide) ?_
      subst h
      exact J_zreturn dX2_isAmong_15 rfl (Or.inl rfl) rfl rfl rfl rfl
    · replace h := ifn c2 h
      refine J_iconst (v := (1 : Int32)) (pc := 10) dX2_isAmong_10 (by decide) ?_
      refine J_goto (pc := 11) (tgt := 15) dX2_isAmong_11 (by decide) ?_
      subst h
      exact J_zreturn dX2_isAmong_15 rfl (Or.inr rfl) rfl rfl rfl rfl
set_option maxHeartbeats 4000000 in
set_option maxRecDepth 100000 in
theorem k_X2_cellAt {E : En} (a1 : Int32) (M : Wd) {r : Int32} (h : F_X2_cellAt a1 M = some r) : Con E mi_X2_cellAt [.ref 51, .int a1] M (.inl (some (.int r))) M := by
  unfold F_X2_cellAt at h
  refine Con.of (by decide) rfl (Nat.le_of_ble_eq_true rfl) (fun κ => ?_)
  show J κ E mi_X2_cellAt _ 0 0 [(0, .ref 51), (1, .int a1)] M 0 []
  refine J_aload_n (pc := 0) dX2_cellAt_0 rfl 0 rfl ?_
  refine J_iload_n (pc := 1) dX2_cellAt_1 rfl 1 rfl ?_
  refine J_iconst (v := (1 : Int32)) (pc := 2) dX2_cellAt_2 (by decide) ?_
  refine J_iadd (pc := 3) dX2_cellAt_3 ?_
  obtain ⟨v1, hc2, h⟩ := obind_e h
  refine J_callV (g := mi_X2_codeAt) (ci := 2) (pc := 4) [.int (a1 + (1 : Int32))] [] mv_X2_codeAt w_671 (k_X2_codeAt  (a1 + (1 : Int32)) _ hc2) rfl (by decide) rfl rfl rfl ⟨⟨Nat.le_of_ble_eq_true rfl, Nat.le_of_ble_eq_true rfl⟩, Nat.le_of_ble_eq_true rfl, Nat.le_of_ble_eq_true rfl⟩ (Nat.le_of_ble_eq_true rfl) dX2_cellAt_4 (Jk_v rfl rfl fun hok3 => ?_)
  refine J_bipush (v := (48 : Int32)) (pc := 7) dX2_cellAt_7 (by decide) ?_
  refine J_bipush (v := (57 : Int32)) (pc := 9) dX2_cellAt_9 (by decide) ?_
  refine J_callS (g := mi_X2_isAmong) (pc := 11) [.int v1, .int (48 : Int32), .int (57 : Int32)] [] ms_X2_isAmong w_678 (k_X2_isAmong  v1 (48 : Int32) (57 : Int32) _) rfl rfl ⟨⟨Nat.le_of_ble_eq_true rfl, Nat.le_of_ble_eq_true rfl⟩, Nat.le_of_ble_eq_true rfl, Nat.le_of_ble_eq_true rfl⟩ (Nat.le_of_ble_eq_true rfl) dX2_cellAt_11 (Jk_v rfl rfl fun hok4 => ?_)
  obtain ⟨v5, e6, h⟩ := bnd_e h
  refine J_topi e6 ?_
  refine J_istore_n (pc := 14) dX2_cellAt_14 rfl (Nat.le_of_ble_eq_true rfl) [1, 2, 0] rfl ?_
  refine J_iload_n (pc := 15) dX2_cellAt_15 rfl 2 rfl ?_
  refine J_if_eq (pc := 16) (tgt := 38) dX2_cellAt_16 (by decide) (fun c7 => ?_) (fun c7 => ?_)
  · replace h := ifp c7 h
    refine J_aload_n (pc := 38) dX2_cellAt_38 rfl 0 rfl ?_
    refine J_iload_n (pc := 39) dX2_cellAt_39 rfl 1 rfl ?_
    obtain ⟨v8, hc9, h⟩ := obind_e h
    refine J_callV (g := mi_X2_digitAt) (ci := 2) (pc := 40) [.int a1] [] mv_X2_digitAt w_704 (k_X2_digitAt  a1 _ hc9) rfl (by decide) rfl rfl rfl ⟨⟨Nat.le_of_ble_eq_true rfl, Nat.le_of_ble_eq_true rfl⟩, Nat.le_of_ble_eq_true rfl, Nat.le_of_ble_eq_true rfl⟩ (Nat.le_of_ble_eq_true rfl) dX2_cellAt_40 (Jk_v rfl rfl fun hok10 => ?_)
    cases h
    exact J_ireturn dX2_cellAt_43 rfl rfl rfl rfl rfl
  · replace h := ifn c7 h
    refine J_bipush (v := (10 : Int32)) (pc := 19) dX2_cellAt_19 (by decide) ?_
    refine J_aload_n (pc := 21) dX2_cellAt_21 rfl 0 rfl ?_
    refine J_iload_n (pc := 22) dX2_cellAt_22 rfl 1 rfl ?_
    obtain ⟨v11, hc12, h⟩ := obind_e h
    refine J_callV (g := mi_X2_digitAt) (ci := 2) (pc := 23) [.int a1] [.int (10 : Int32)] mv_X2_digitAt w_704 (k_X2_digitAt  a1 _ hc12) rfl (by decide) rfl rfl rfl ⟨⟨Nat.le_of_ble_eq_true rfl, Nat.le_of_ble_eq_true rfl⟩, Nat.le_of_ble_eq_true rfl, Nat.le_of_ble_eq_true rfl⟩ (Nat.le_of_ble_eq_true rfl) dX2_cellAt_23 (Jk_v rfl rfl fun hok13 => ?_)
    refine J_imul (pc := 26) dX2_cellAt_26 ?_
    refine J_aload_n (pc := 27) dX2_cellAt_27 rfl 0 rfl ?_
    refine J_iload_n (pc := 28) dX2_cellAt_28 rfl 1 rfl ?_
    refine J_iconst (v := (1 : Int32)) (pc := 29) dX2_cellAt_29 (by decide) ?_
    refine J_iadd (pc := 30) dX2_cellAt_30 ?_
    obtain ⟨v14, hc15, h⟩ := obind_e h
    refine J_callV (g := mi_X2_digitAt) (ci := 2) (pc := 31) [.int (a1 + (1 : Int32))] [.int ((10 : Int32) * v11)] mv_X2_digitAt w_704 (k_X2_digitAt  (a1 + (1 : Int32)) _ hc15) rfl (by decide) rfl rfl rfl ⟨⟨Nat.le_of_ble_eq_true rfl, Nat.le_of_ble_eq_true rfl⟩, Nat.le_of_ble_eq_true rfl, Nat.le_of_ble_eq_true rfl⟩ (Nat.le_of_ble_eq_true rfl) dX2_cellAt_31 (Jk_v rfl rfl fun hok16 => ?_)
    refine J_iadd (pc := 34) dX2_cellAt_34 ?_
    refine J_goto (pc := 35) (tgt := 43) dX2_cellAt_35 (by decide) ?_
    cases h
    exact J_ireturn dX2_cellAt_43 rfl rfl rfl rfl rfl

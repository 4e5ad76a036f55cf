/-! ===== walks of the methods, 13 ===== -/
set_option maxHeartbeats 4000000 in
set_option maxRecDepth 100000 in
theorem k_X4_change {E : En} (M : Wd) {r : Int32} {M' : Wd} (h : F_X4_change M = some (r, M')) : Con E mi_X4_change [.ref 53] M (.inl (some (.int r))) M' := by
  unfold F_X4_change at h
  refine Con.of (by decide) rfl (Nat.le_of_ble_eq_true rfl) (fun κ => ?_)
  show J κ E mi_X4_change _ 0 0 [(0, .ref 53)] M 0 []
  refine J_aload_n (pc := 0) dX4_change_0 rfl 0 rfl ?_
  refine J_aload_n (pc := 1) dX4_change_1 rfl 0 rfl ?_
  refine J_bipush (v := (43 : Int32)) (pc := 2) dX4_change_2 (by decide) ?_
  obtain ⟨v1, M2, hc3, h⟩ := obind2_e h
  refine J_callV (g := mi_X4_goesOn) (ci := 4) (pc := 4) [.int (43 : Int32)] [.ref 53] mv_X4_goesOn w_1301 (k_X4_goesOn (43 : Int32) _ hc3) rfl (by decide) rfl rfl rfl ⟨⟨Nat.le_of_ble_eq_true rfl, Nat.le_of_ble_eq_true rfl⟩, Nat.le_of_ble_eq_true rfl, Nat.le_of_ble_eq_true rfl⟩ (Nat.le_of_ble_eq_true rfl) dX4_change_4 (Jk_v rfl rfl fun hok4 => ?_)
  obtain ⟨v5, M6, hv13, h⟩ := obind2_e h
  refine J_join [(0, .ref 53)] M6 28 [.int v5, .ref 53] ?_ (fun hJ => ?_)
  · refine put_53_17 (pc := 28) w_1040 dX4_change_28 ?_
    refine J_aload_n (pc := 31) dX4_change_31 rfl 0 rfl ?_
    refine get_53_17 (pc := 32) w_1040 dX4_change_32 ?_
    refine J_topi (y := v5) (Eq.symm (show (upI M6 53 17 v5).1 53 17 = v5 from eI_kk)) ?_
    refine J_if_eq (pc := 35) (tgt := 47) dX4_change_35 (by decide) (fun c14 => ?_) (fun c14 => ?_)
    · replace h := ifp c14 h
      refine J_iconst (v := (0 : Int32)) (pc := 47) dX4_change_47 (by decide) ?_
      cases h
      exact J_zreturn dX4_change_48 rfl (Or.inl rfl) rfl rfl rfl rfl
    · replace h := ifn c14 h
      refine J_aload_n (pc := 38) dX4_change_38 rfl 0 rfl ?_
      refine J_iconst (v := (1 : Int32)) (pc := 39) dX4_change_39 (by decide) ?_
      refine J_iconst (v := (3 : Int32)) (pc := 40) dX4_change_40 (by decide) ?_
      obtain ⟨v15, M16, hc17, h⟩ := obind2_e h
      refine J_callV (g := mi_X4_digit) (ci := 4) (pc := 41) [.int (1 : Int32), .int (3 : Int32)] [] mv_X4_digit w_1297 (k_X4_digit (1 : Int32) (3 : Int32) _ hc17) rfl (by decide) rfl rfl rfl ⟨⟨Nat.le_of_ble_eq_true rfl, Nat.le_of_ble_eq_true rfl⟩, Nat.le_of_ble_eq_true rfl, Nat.le_of_ble_eq_true rfl⟩ (Nat.le_of_ble_eq_true rfl) dX4_change_41 (Jk_v rfl rfl fun hok18 => ?_)
      refine J_if_ne (pc := 44) (tgt := 49) dX4_change_44 (by decide) (fun c19 => ?_) (fun c19 => ?_)
      · replace h := ifn c19 h
        refine J_aload_n (pc := 49) dX4_change_49 rfl 0 rfl ?_
        refine J_dup (pc := 50) dX4_change_50 rfl ?_
        refine get_53_17 (pc := 51) w_1040 dX4_change_51 ?_
        refine J_aload_n (pc := 54) dX4_change_54 rfl 0 rfl ?_
        refine get_53_18 (pc := 55) w_1041 dX4_change_55 ?_
        refine J_imul (pc := 58) dX4_change_58 ?_
        refine put_53_17 (pc := 59) w_1040 dX4_change_59 ?_
        refine J_iconst (v := (1 : Int32)) (pc := 62) dX4_change_62 (by decide) ?_
        cases h
        exact J_zreturn dX4_change_63 rfl (Or.inr rfl) rfl rfl rfl rfl
      · replace h := ifp c19 h
        refine J_iconst (v := (0 : Int32)) (pc := 47) dX4_change_47 (by decide) ?_
        cases h
        exact J_zreturn dX4_change_48 rfl (Or.inl rfl) rfl rfl rfl rfl
  · replace h := hv13
    refine J_if_eq (pc := 7) (tgt := 14) dX4_change_7 (by decide) (fun c7 => ?_) (fun c7 => ?_)
    · replace h := ifp c7 h
      refine J_aload_n (pc := 14) dX4_change_14 rfl 0 rfl ?_
      refine J_bipush (v := (45 : Int32)) (pc := 15) dX4_change_15 (by decide) ?_
      obtain ⟨v8, M9, hc10, h⟩ := obind2_e h
      refine J_callV (g := mi_X4_goesOn) (ci := 4) (pc := 17) [.int (45 : Int32)] [.ref 53] mv_X4_goesOn w_1301 (k_X4_goesOn (45 : Int32) _ hc10) rfl (by decide) rfl rfl rfl ⟨⟨Nat.le_of_ble_eq_true rfl, Nat.le_of_ble_eq_true rfl⟩, Nat.le_of_ble_eq_true rfl, Nat.le_of_ble_eq_true rfl⟩ (Nat.le_of_ble_eq_true rfl) dX4_change_17 (Jk_v rfl rfl fun hok11 => ?_)
      refine J_if_eq (pc := 20) (tgt := 27) dX4_change_20 (by decide) (fun c12 => ?_) (fun c12 => ?_)
      · replace h := ifp c12 h
        refine J_iconst (v := (0 : Int32)) (pc := 27) dX4_change_27 (by decide) ?_
        cases h
        exact hJ
      · replace h := ifn c12 h
        refine J_iconst (v := (-1 : Int32)) (pc := 23) dX4_change_23 (by decide) ?_
        refine J_goto (pc := 24) (tgt := 28) dX4_change_24 (by decide) ?_
        cases h
        exact hJ
    · replace h := ifn c7 h
      refine J_iconst (v := (1 : Int32)) (pc := 10) dX4_change_10 (by decide) ?_
      refine J_goto (pc := 11) (tgt := 28) dX4_change_11 (by decide) ?_
      cases h
      exact hJ
set_option maxHeartbeats 4000000 in
set_option maxRecDepth 100000 in
theorem k_X4_part {E : En} (a1 : Int32) (M : Wd) {r : Int32} {M' : Wd} (h : F_X4_part a1 M = some (r, M')) : Con E mi_X4_part [.ref 53, .int a1] M (.inl (some (.int r))) M' := by
  unfold F_X4_part at h
  refine Con.of (by decide) rfl (Nat.le_of_ble_eq_true rfl) (fun κ => ?_)
  show J κ E mi_X4_part _ 0 0 [(0, .ref 53), (1, .int a1)] M 0 []
  refine J_iload_n (pc := 0) dX4_part_0 rfl 1 rfl ?_
  by_cases c17 : a1 = 98
  · replace h := ifp c17 h
    refine J_topi c17.symm ?_
    refine J_lookup (pc := 1) (tgt := 69) dX4_part_1 (by decide) rfl (by decide) ?_
    refine J_iconst (v := (1 : Int32)) (pc := 69) dX4_part_69 (by decide) ?_
    cases h
    exact J_zreturn dX4_part_70 rfl (Or.inr rfl) rfl rfl rfl rfl
  · replace h := ifn c17 h
    by_cases c18 : a1 = 100
    · replace h := ifp c18 h
      refine J_topi c18.symm ?_
      refine J_lookup (pc := 1) (tgt := 69) dX4_part_1 (by decide) rfl (by decide) ?_
      refine J_iconst (v := (1 : Int32)) (pc := 69) dX4_part_69 (by decide) ?_
      cases h
      exact J_zreturn dX4_part_70 rfl (Or.inr rfl) rfl rfl rfl rfl
    · replace h := ifn c18 h
      by_cases c19 : a1 = 104
      · replace h := ifp c19 h
        refine J_topi c19.symm ?_
        refine J_lookup (pc := 1) (tgt := 52) dX4_part_1 (by decide) rfl (by decide) ?_
        refine J_aload_n (pc := 52) dX4_part_52 rfl 0 rfl ?_
        refine J_iconst (v := (0 : Int32)) (pc := 53) dX4_part_53 (by decide) ?_
        obtain ⟨v1, M2, hc3, h⟩ := obind2_e h
        refine J_callV (g := mi_X4_car) (ci := 4) (pc := 54) [.int (0 : Int32)] [] mv_X4_car w_1293 (k_X4_car (0 : Int32) _ hc3) rfl (by decide) rfl rfl rfl ⟨⟨Nat.le_of_ble_eq_true rfl, Nat.le_of_ble_eq_true rfl⟩, Nat.le_of_ble_eq_true rfl, Nat.le_of_ble_eq_true rfl⟩ (Nat.le_of_ble_eq_true rfl) dX4_part_54 (Jk_v rfl rfl fun hok4 => ?_)
        cases h
        exact J_zreturn dX4_part_57 rfl (okB_b hok4) rfl rfl rfl rfl
      · replace h := ifn c19 h
        by_cases c20 : a1 = 118
        · replace h := ifp c20 h
          refine J_topi c20.symm ?_
          refine J_lookup (pc := 1) (tgt := 58) dX4_part_1 (by decide) rfl (by decide) ?_
          refine J_aload_n (pc := 58) dX4_part_58 rfl 0 rfl ?_
          refine J_iconst (v := (5 : Int32)) (pc := 59) dX4_part_59 (by decide) ?_
          obtain ⟨v5, M6, hc7, h⟩ := obind2_e h
          refine J_callV (g := mi_X4_car) (ci := 4) (pc := 60) [.int (5 : Int32)] [] mv_X4_car w_1293 (k_X4_car (5 : Int32) _ hc7) rfl (by decide) rfl rfl rfl ⟨⟨Nat.le_of_ble_eq_true rfl, Nat.le_of_ble_eq_true rfl⟩, Nat.le_of_ble_eq_true rfl, Nat.le_of_ble_eq_true rfl⟩ (Nat.le_of_ble_eq_true rfl) dX4_part_60 (Jk_v rfl rfl fun hok8 => ?_)
          cases h
          exact J_zreturn dX4_part_63 rfl (okB_b hok8) rfl rfl rfl rfl
        · replace h := ifn c20 h
          by_cases c21 : a1 = 119
          · replace h := ifp c21 h
            refine J_topi c21.symm ?_
            refine J_lookup (pc := 1) (tgt := 64) dX4_part_1 (by decide) rfl (by decide) ?_
            refine J_aload_n (pc := 64) dX4_part_64 rfl 0 rfl ?_
            obtain ⟨v9, M10, hc11, h⟩ := obind2_e h
            refine J_callV (g := mi_X4_cell) (ci := 4) (pc := 65) [] [] mv_X4_cell w_1305 (k_X4_cell _ hc11) rfl (by decide) rfl rfl rfl ⟨⟨Nat.le_of_ble_eq_true rfl, Nat.le_of_ble_eq_true rfl⟩, Nat.le_of_ble_eq_true rfl, Nat.le_of_ble_eq_true rfl⟩ (Nat.le_of_ble_eq_true rfl) dX4_part_65 (Jk_v rfl rfl fun hok12 => ?_)
            cases h
            exact J_zreturn dX4_part_68 rfl (okB_b hok12) rfl rfl rfl rfl
          · replace h := ifn c21 h
            refine J_lookup (pc := 1) (tgt := 71) dX4_part_1 (by decide) (lsw_X4_part_1 a1 c17 c18 c19 c20 c21) (by decide) ?_
            refine J_aload_n (pc := 71) dX4_part_71 rfl 0 rfl ?_
            refine J_iload_n (pc := 72) dX4_part_72 rfl 1 rfl ?_
            refine J_bipush (v := (48 : Int32)) (pc := 73) dX4_part_73 (by decide) ?_
            refine J_isub (pc := 75) dX4_part_75 ?_
            refine put_53_16 (pc := 76) w_1039 dX4_part_76 ?_
            refine J_aload_n (pc := 79) dX4_part_79 rfl 0 rfl ?_
            obtain ⟨v13, M14, hc15, h⟩ := obind2_e h
            refine J_callV (g := mi_X4_change) (ci := 4) (pc := 80) [] [] mv_X4_change w_1309 (k_X4_change _ hc15) rfl (by decide) rfl rfl rfl ⟨⟨Nat.le_of_ble_eq_true rfl, Nat.le_of_ble_eq_true rfl⟩, Nat.le_of_ble_eq_true rfl, Nat.le_of_ble_eq_true rfl⟩ (Nat.le_of_ble_eq_true rfl) dX4_part_80 (Jk_v rfl rfl fun hok16 => ?_)
            cases h
            exact J_zreturn dX4_part_83 rfl (okB_b hok16) rfl rfl rfl rfl
set_option maxHeartbeats 4000000 in
set_option maxRecDepth 100000 in
theorem k_X4_isSign {E : En} (a0 : Int32) (M : Wd) : Con E mi_X4_isSign [.int a0] M (.inl (some (.int (F_X4_isSign a0)))) M := by
  obtain ⟨r, h⟩ : ∃ r, F_X4_isSign a0 = r := ⟨_, rfl⟩
  rw [h]
  unfold F_X4_isSign at h
  refine Con.of (by decide) rfl (Nat.le_of_ble_eq_true rfl) (fun κ => ?_)
  show J κ E mi_X4_isSign _ 0 0 [(0, .int a0)] M 0 []
  refine J_iload_n (pc := 0) dX4_isSign_0 rfl 0 rfl ?_
  refine J_bipush (v := (104 : Int32)) (pc := 1) dX4_isSign_1 (by decide) ?_
  refine J_icmp_eq (pc := 3) (tgt := 44) dX4_isSign_3 (by decide) (fun c1 => ?_) (fun c1 => ?_)
  · replace h := ifp c1 h
    refine J_iconst (v := (1 : Int32)) (pc := 44) dX4_isSign_44 (by decide) ?_
    refine J_goto (pc := 45) (tgt := 49) dX4_isSign_45 (by decide) ?_
    subst h
    exact J_zreturn dX4_isSign_49 rfl (Or.inr rfl) rfl rfl rfl rfl
  · replace h := ifn c1 h
    refine J_iload_n (pc := 6) dX4_isSign_6 rfl 0 rfl ?_
    refine J_bipush (v := (118 : Int32)) (pc := 7) dX4_isSign_7 (by decide) ?_
    refine J_icmp_eq (pc := 9) (tgt := 44) dX4_isSign_9 (by decide) (fun c2 => ?_) (fun c2 => ?_)
    · replace h := ifp c2 h
      refine J_iconst (v := (1 : Int32)) (pc := 44) dX4_isSign_44 (by decide) ?_
      refine J_goto (pc := 45) (tgt := 49) dX4_isSign_45 (by decide) ?_
      subst h
      exact J_zreturn dX4_isSign_49 rfl (Or.inr rfl) rfl rfl rfl rfl
    · replace h := ifn c2 h
      refine J_iload_n (pc := 12) dX4_isSign_12 rfl 0 rfl ?_
      refine J_bipush (v := (119 : Int32)) (pc := 13) dX4_isSign_13 (by decide) ?_
      refine J_icmp_eq (pc := 15) (tgt := 44) dX4_isSign_15 (by decide) (fun c3 => ?_) (fun c3 => ?_)
      · replace h := ifp c3 h
        refine J_iconst (v := (1 : Int32)) (pc := 44) dX4_isSign_44 (by decide) ?_
        refine J_goto (pc := 45) (tgt := 49) dX4_isSign_45 (by decide) ?_
        subst h
        exact J_zreturn dX4_isSign_49 rfl (Or.inr rfl) rfl rfl rfl rfl
      · replace h := ifn c3 h
        refine J_iload_n (pc := 18) dX4_isSign_18 rfl 0 rfl ?_
        refine J_bipush (v := (98 : Int32)) (pc := 19) dX4_isSign_19 (by decide) ?_
        refine J_icmp_eq (pc := 21) (tgt := 44) dX4_isSign_21 (by decide) (fun c4 => ?_) (fun c4 => ?_)
        · replace h := ifp c4 h
          refine J_iconst (v := (1 : Int32)) (pc := 44) dX4_isSign_44 (by decide) ?_
          refine J_goto (pc := 45) (tgt := 49) dX4_isSign_45 (by decide) ?_
          subst h
          exact J_zreturn dX4_isSign_49 rfl (Or.inr rfl) rfl rfl rfl rfl
        · replace h := ifn c4 h
          refine J_iload_n (pc := 24) dX4_isSign_24 rfl 0 rfl ?_
          refine J_bipush (v := (100 : Int32)) (pc := 25) dX4_isSign_25 (by decide) ?_
          refine J_icmp_eq (pc := 27) (tgt := 44) dX4_isSign_27 (by decide) (fun c5 => ?_) (fun c5 => ?_)
          · replace h := ifp c5 h
            refine J_iconst (v := (1 : Int32)) (pc := 44) dX4_isSign_44 (by decide) ?_
            refine J_goto (pc := 45) (tgt := 49) dX4_isSign_45 (by decide) ?_
            subst h
            exact J_zreturn dX4_isSign_49 rfl (Or.inr rfl) rfl rfl rfl rfl
          · replace h := ifn c5 h
            refine J_iload_n (pc := 30) dX4_isSign_30 rfl 0 rfl ?_
            refine J_i2l (pc := 31) dX4_isSign_31 ?_
            refine J_ldc2 (pc := 32) w_1287 dX4_isSign_32 ?_
            refine J_ldc2 (pc := 35) w_1288 dX4_isSign_35 ?_
            refine J_callS (g := mi_X4_in) (pc := 38) [.long a0.toInt64, .long (48 : Int64), .long (53 : Int64)] [] ms_X4_in w_1104 (k_X4_in a0.toInt64 (48 : Int64) (53 : Int64) _) rfl rfl ⟨⟨Nat.le_of_ble_eq_true rfl, Nat.le_of_ble_eq_true rfl⟩, Nat.le_of_ble_eq_true rfl, Nat.le_of_ble_eq_true rfl⟩ (Nat.le_of_ble_eq_true rfl) dX4_isSign_38 (Jk_v rfl rfl fun hok6 => ?_)
            refine J_if_eq (pc := 41) (tgt := 48) dX4_isSign_41 (by decide) (fun c7 => ?_) (fun c7 => ?_)
            · replace h := ifp c7 h
              refine J_iconst (v := (0 : Int32)) (pc := 48) dX4_isSign_48 (by decide) ?_
              subst h
              exact J_zreturn dX4_isSign_49 rfl (Or.inl rfl) rfl rfl rfl rfl
            · replace h := ifn c7 h
              refine J_iconst (v := (1 : Int32)) (pc := 44) dX4_isSign_44 (by decide) ?_
              refine J_goto (pc := 45) (tgt := 49) dX4_isSign_45 (by decide) ?_
              subst h
              exact J_zreturn dX4_isSign_49 rfl (Or.inr rfl) rfl rfl rfl rfl
set_option maxHeartbeats 4000000 in
set_option maxRecDepth 100000 in
theorem k_X4_does {E : En} (a1 : Int32) (M : Wd) {r : Int32} {M' : Wd} (h : F_X4_does a1 M = some (r, M')) : Con E mi_X4_does [.ref 53, .int a1] M (.inl (some (.int r))) M' := by
  unfold F_X4_does at h
  refine Con.of (by decide) rfl (Nat.le_of_ble_eq_true rfl) (fun κ => ?_)
  show J κ E mi_X4_does _ 0 0 [(0, .ref 53), (1, .int a1)] M 0 []
  refine J_iload_n (pc := 0) dX4_does_0 rfl 1 rfl ?_
  by_cases c57 : a1 = 98
  · replace h := ifp c57 h
    refine J_topi c57.symm ?_
    refine J_lookup (pc := 1) (tgt := 124) dX4_does_1 (by decide) rfl (by decide) ?_
    refine J_aload_n (pc := 124) dX4_does_124 rfl 0 rfl ?_
    refine get_53_3 (pc := 125) w_1026 dX4_does_125 ?_
    refine J_bipush (v := (20 : Int32)) (pc := 128) dX4_does_128 (by decide) ?_
    refine J_iald (c := 55) (N := 82) (pc := 130) ja_55 (Nat.le_of_ble_eq_true rfl) (vpc rfl) dX4_does_130 ?_
    refine J_topi (x := M.1 55 (Int32.toNatClampNeg 20)) (y := (M.1 55 20)) (Eq.symm (a := M.1 55 (Int32.toNatClampNeg 20)) (show M.1 55 20 = (M.1 55 20) from rfl)) ?_
    refine J_if_le (pc := 131) (tgt := 145) dX4_does_131 (by decide) (fun c1 => ?_) (fun c1 => ?_)
    · replace h := ifp c1 h
      refine J_iconst (v := (0 : Int32)) (pc := 145) dX4_does_145 (by decide) ?_
      cases h
      exact J_zreturn dX4_does_146 rfl (Or.inl rfl) rfl rfl rfl rfl
    · replace h := ifn c1 h
      refine J_aload_n (pc := 134) dX4_does_134 rfl 0 rfl ?_
      obtain ⟨v2, M3, hc4, h⟩ := obind2_e h
      refine J_callV (g := mi_X4_backOn) (ci := 4) (pc := 135) [] [] mv_X4_backOn w_1190 (k_X4_backOn _ hc4) rfl (by decide) rfl rfl rfl ⟨⟨Nat.le_of_ble_eq_true rfl, Nat.le_of_ble_eq_true rfl⟩, Nat.le_of_ble_eq_true rfl, Nat.le_of_ble_eq_true rfl⟩ (Nat.le_of_ble_eq_true rfl) dX4_does_135 (Jk_v rfl rfl fun hok5 => ?_)
      refine J_if_lt (pc := 138) (tgt := 145) dX4_does_138 (by decide) (fun c6 => ?_) (fun c6 => ?_)
      · replace h := ifp c6 h
        refine J_iconst (v := (0 : Int32)) (pc := 145) dX4_does_145 (by decide) ?_
        cases h
        exact J_zreturn dX4_does_146 rfl (Or.inl rfl) rfl rfl rfl rfl
      · replace h := ifn c6 h
        refine J_iconst (v := (1 : Int32)) (pc := 141) dX4_does_141 (by decide) ?_
        refine J_goto (pc := 142) (tgt := 146) dX4_does_142 (by decide) ?_
        cases h
        exact J_zreturn dX4_does_146 rfl (Or.inr rfl) rfl rfl rfl rfl
  · replace h := ifn c57 h
    by_cases c58 : a1 = 100
    · replace h := ifp c58 h
      refine J_topi c58.symm ?_
      refine J_lookup (pc := 1) (tgt := 147) dX4_does_1 (by decide) rfl (by decide) ?_
      refine J_aload_n (pc := 147) dX4_does_147 rfl 0 rfl ?_
      obtain ⟨v7, M8, hc9, h⟩ := obind2_e h
      refine J_callV (g := mi_X4_canDrive) (ci := 4) (pc := 148) [] [] mv_X4_canDrive w_1210 (k_X4_canDrive _ hc9) rfl (by decide) rfl rfl rfl ⟨⟨Nat.le_of_ble_eq_true rfl, Nat.le_of_ble_eq_true rfl⟩, Nat.le_of_ble_eq_true rfl, Nat.le_of_ble_eq_true rfl⟩ (Nat.le_of_ble_eq_true rfl) dX4_does_148 (Jk_v rfl rfl fun hok10 => ?_)
      refine J_if_eq (pc := 151) (tgt := 165) dX4_does_151 (by decide) (fun c11 => ?_) (fun c11 => ?_)
      · replace h := ifp c11 h
        refine J_iconst (v := (0 : Int32)) (pc := 165) dX4_does_165 (by decide) ?_
        cases h
        exact J_zreturn dX4_does_166 rfl (Or.inl rfl) rfl rfl rfl rfl
      · replace h := ifn c11 h
        refine J_aload_n (pc := 154) dX4_does_154 rfl 0 rfl ?_
        obtain ⟨v12, M13, hc14, h⟩ := obind2_e h
        refine J_callV (g := mi_X4_driveOn) (ci := 4) (pc := 155) [] [] mv_X4_driveOn w_1258 (k_X4_driveOn _ hc14) rfl (by decide) rfl rfl rfl ⟨⟨Nat.le_of_ble_eq_true rfl, Nat.le_of_ble_eq_true rfl⟩, Nat.le_of_ble_eq_true rfl, Nat.le_of_ble_eq_true rfl⟩ (Nat.le_of_ble_eq_true rfl) dX4_does_155 (Jk_v rfl rfl fun hok15 => ?_)
        refine J_if_lt (pc := 158) (tgt := 165) dX4_does_158 (by decide) (fun c16 => ?_) (fun c16 => ?_)
        · replace h := ifp c16 h
          refine J_iconst (v := (0 : Int32)) (pc := 165) dX4_does_165 (by decide) ?_
          cases h
          exact J_zreturn dX4_does_166 rfl (Or.inl rfl) rfl rfl rfl rfl
        · replace h := ifn c16 h
          refine J_iconst (v := (1 : Int32)) (pc := 161) dX4_does_161 (by decide) ?_
          refine J_goto (pc := 162) (tgt := 166) dX4_does_162 (by decide) ?_
          cases h
          exact J_zreturn dX4_does_166 rfl (Or.inr rfl) rfl rfl rfl rfl
    · replace h := ifn c58 h
      by_cases c59 : a1 = 104
      · replace h := ifp c59 h
        refine J_topi c59.symm ?_
        refine J_lookup (pc := 1) (tgt := 52) dX4_does_1 (by decide) rfl (by decide) ?_
        refine J_aload_n (pc := 52) dX4_does_52 rfl 0 rfl ?_
        refine J_aload_n (pc := 53) dX4_does_53 rfl 0 rfl ?_
        refine get_53_16 (pc := 54) w_1039 dX4_does_54 ?_
        refine J_aload_n (pc := 57) dX4_does_57 rfl 0 rfl ?_
        refine get_53_17 (pc := 58) w_1040 dX4_does_58 ?_
        refine J_aload_n (pc := 61) dX4_does_61 rfl 0 rfl ?_
        refine get_53_18 (pc := 62) w_1041 dX4_does_62 ?_
        obtain ⟨v17, hc18, h⟩ := obind_e h
        refine J_callV (g := mi_X4_wrongCar) (ci := 4) (pc := 65) [.int (M.1 53 16), .int (M.1 53 17), .int (M.1 53 18)] [] mv_X4_wrongCar w_1099 (k_X4_wrongCar (M.1 53 16) (M.1 53 17) (M.1 53 18) _ hc18) rfl (by decide) rfl rfl rfl ⟨⟨Nat.le_of_ble_eq_true rfl, Nat.le_of_ble_eq_true rfl⟩, Nat.le_of_ble_eq_true rfl, Nat.le_of_ble_eq_true rfl⟩ (Nat.le_of_ble_eq_true rfl) dX4_does_65 (Jk_v rfl rfl fun hok19 => ?_)
        refine J_if_ne (pc := 68) (tgt := 94) dX4_does_68 (by decide) (fun c20 => ?_) (fun c20 => ?_)
        · replace h := ifn c20 h
          refine J_iconst (v := (0 : Int32)) (pc := 94) dX4_does_94 (by decide) ?_
          cases h
          exact J_zreturn dX4_does_95 rfl (Or.inl rfl) rfl rfl rfl rfl
        · replace h := ifp c20 h
          refine J_aload_n (pc := 71) dX4_does_71 rfl 0 rfl ?_
          refine J_aload_n (pc := 72) dX4_does_72 rfl 0 rfl ?_
          refine get_53_16 (pc := 73) w_1039 dX4_does_73 ?_
          refine J_aload_n (pc := 76) dX4_does_76 rfl 0 rfl ?_
          refine get_53_17 (pc := 77) w_1040 dX4_does_77 ?_
          refine J_aload_n (pc := 80) dX4_does_80 rfl 0 rfl ?_
          refine get_53_18 (pc := 81) w_1041 dX4_does_81 ?_
          obtain ⟨v21, M22, hc23, h⟩ := obind2_e h
          refine J_callV (g := mi_X4_addOn) (ci := 4) (pc := 84) [.int (M.1 53 16), .int (M.1 53 17), .int (M.1 53 18)] [] mv_X4_addOn w_1131 (k_X4_addOn (M.1 53 16) (M.1 53 17) (M.1 53 18) _ hc23) rfl (by decide) rfl rfl rfl ⟨⟨Nat.le_of_ble_eq_true rfl, Nat.le_of_ble_eq_true rfl⟩, Nat.le_of_ble_eq_true rfl, Nat.le_of_ble_eq_true rfl⟩ (Nat.le_of_ble_eq_true rfl) dX4_does_84 (Jk_v rfl rfl fun hok24 => ?_)
          refine J_if_lt (pc := 87) (tgt := 94) dX4_does_87 (by decide) (fun c25 => ?_) (fun c25 => ?_)
          · replace h := ifp c25 h
            refine J_iconst (v := (0 : Int32)) (pc := 94) dX4_does_94 (by decide) ?_
            cases h
            exact J_zreturn dX4_does_95 rfl (Or.inl rfl) rfl rfl rfl rfl
          · replace h := ifn c25 h
            refine J_iconst (v := (1 : Int32)) (pc := 90) dX4_does_90 (by decide) ?_
            refine J_goto (pc := 91) (tgt := 95) dX4_does_91 (by decide) ?_
            cases h
            exact J_zreturn dX4_does_95 rfl (Or.inr rfl) rfl rfl rfl rfl
      · replace h := ifn c59 h
        by_cases c60 : a1 = 118
        · replace h := ifp c60 h
          refine J_topi c60.symm ?_
          refine J_lookup (pc := 1) (tgt := 52) dX4_does_1 (by decide) rfl (by decide) ?_
          refine J_aload_n (pc := 52) dX4_does_52 rfl 0 rfl ?_
          refine J_aload_n (pc := 53) dX4_does_53 rfl 0 rfl ?_
          refine get_53_16 (pc := 54) w_1039 dX4_does_54 ?_
          refine J_aload_n (pc := 57) dX4_does_57 rfl 0 rfl ?_
          refine get_53_17 (pc := 58) w_1040 dX4_does_58 ?_
          refine J_aload_n (pc := 61) dX4_does_61 rfl 0 rfl ?_
          refine get_53_18 (pc := 62) w_1041 dX4_does_62 ?_
          obtain ⟨v26, hc27, h⟩ := obind_e h
          refine J_callV (g := mi_X4_wrongCar) (ci := 4) (pc := 65) [.int (M.1 53 16), .int (M.1 53 17), .int (M.1 53 18)] [] mv_X4_wrongCar w_1099 (k_X4_wrongCar (M.1 53 16) (M.1 53 17) (M.1 53 18) _ hc27) rfl (by decide) rfl rfl rfl ⟨⟨Nat.le_of_ble_eq_true rfl, Nat.le_of_ble_eq_true rfl⟩, Nat.le_of_ble_eq_true rfl, Nat.le_of_ble_eq_true rfl⟩ (Nat.le_of_ble_eq_true rfl) dX4_does_65 (Jk_v rfl rfl fun hok28 => ?_)
          refine J_if_ne (pc := 68) (tgt := 94) dX4_does_68 (by decide) (fun c29 => ?_) (fun c29 => ?_)
          · replace h := ifn c29 h
            refine J_iconst (v := (0 : Int32)) (pc := 94) dX4_does_94 (by decide) ?_
            cases h
            exact J_zreturn dX4_does_95 rfl (Or.inl rfl) rfl rfl rfl rfl
          · replace h := ifp c29 h
            refine J_aload_n (pc := 71) dX4_does_71 rfl 0 rfl ?_
            refine J_aload_n (pc := 72) dX4_does_72 rfl 0 rfl ?_
            refine get_53_16 (pc := 73) w_1039 dX4_does_73 ?_
            refine J_aload_n (pc := 76) dX4_does_76 rfl 0 rfl ?_
            refine get_53_17 (pc := 77) w_1040 dX4_does_77 ?_
            refine J_aload_n (pc := 80) dX4_does_80 rfl 0 rfl ?_
            refine get_53_18 (pc := 81) w_1041 dX4_does_81 ?_
            obtain ⟨v30, M31, hc32, h⟩ := obind2_e h
            refine J_callV (g := mi_X4_addOn) (ci := 4) (pc := 84) [.int (M.1 53 16), .int (M.1 53 17), .int (M.1 53 18)] [] mv_X4_addOn w_1131 (k_X4_addOn (M.1 53 16) (M.1 53 17) (M.1 53 18) _ hc32) rfl (by decide) rfl rfl rfl ⟨⟨Nat.le_of_ble_eq_true rfl, Nat.le_of_ble_eq_true rfl⟩, Nat.le_of_ble_eq_true rfl, Nat.le_of_ble_eq_true rfl⟩ (Nat.le_of_ble_eq_true rfl) dX4_does_84 (Jk_v rfl rfl fun hok33 => ?_)
            refine J_if_lt (pc := 87) (tgt := 94) dX4_does_87 (by decide) (fun c34 => ?_) (fun c34 => ?_)
            · replace h := ifp c34 h
              refine J_iconst (v := (0 : Int32)) (pc := 94) dX4_does_94 (by decide) ?_
              cases h
              exact J_zreturn dX4_does_95 rfl (Or.inl rfl) rfl rfl rfl rfl
            · replace h := ifn c34 h
              refine J_iconst (v := (1 : Int32)) (pc := 90) dX4_does_90 (by decide) ?_
              refine J_goto (pc := 91) (tgt := 95) dX4_does_91 (by decide) ?_
              cases h
              exact J_zreturn dX4_does_95 rfl (Or.inr rfl) rfl rfl rfl rfl
        · replace h := ifn c60 h
          by_cases c61 : a1 = 119
          · replace h := ifp c61 h
            refine J_topi c61.symm ?_
            refine J_lookup (pc := 1) (tgt := 96) dX4_does_1 (by decide) rfl (by decide) ?_
            refine J_aload_n (pc := 96) dX4_does_96 rfl 0 rfl ?_
            refine J_aload_n (pc := 97) dX4_does_97 rfl 0 rfl ?_
            refine get_53_16 (pc := 98) w_1039 dX4_does_98 ?_
            obtain ⟨v35, hc36, h⟩ := obind_e h
            refine J_callV (g := mi_X4_canTurn) (ci := 4) (pc := 101) [.int (M.1 53 16)] [] mv_X4_canTurn w_1147 (k_X4_canTurn (M.1 53 16) _ hc36) rfl (by decide) rfl rfl rfl ⟨⟨Nat.le_of_ble_eq_true rfl, Nat.le_of_ble_eq_true rfl⟩, Nat.le_of_ble_eq_true rfl, Nat.le_of_ble_eq_true rfl⟩ (Nat.le_of_ble_eq_true rfl) dX4_does_101 (Jk_v rfl rfl fun hok37 => ?_)
            refine J_if_eq (pc := 104) (tgt := 122) dX4_does_104 (by decide) (fun c38 => ?_) (fun c38 => ?_)
            · replace h := ifp c38 h
              refine J_iconst (v := (0 : Int32)) (pc := 122) dX4_does_122 (by decide) ?_
              cases h
              exact J_zreturn dX4_does_123 rfl (Or.inl rfl) rfl rfl rfl rfl
            · replace h := ifn c38 h
              refine J_aload_n (pc := 107) dX4_does_107 rfl 0 rfl ?_
              refine J_aload_n (pc := 108) dX4_does_108 rfl 0 rfl ?_
              refine get_53_16 (pc := 109) w_1039 dX4_does_109 ?_
              obtain ⟨v39, M40, hc41, h⟩ := obind2_e h
              refine J_callV (g := mi_X4_turnOn) (ci := 4) (pc := 112) [.int (M.1 53 16)] [] mv_X4_turnOn w_1158 (k_X4_turnOn (M.1 53 16) _ hc41) rfl (by decide) rfl rfl rfl ⟨⟨Nat.le_of_ble_eq_true rfl, Nat.le_of_ble_eq_true rfl⟩, Nat.le_of_ble_eq_true rfl, Nat.le_of_ble_eq_true rfl⟩ (Nat.le_of_ble_eq_true rfl) dX4_does_112 (Jk_v rfl rfl fun hok42 => ?_)
              refine J_join [] M40 118 [] ?_ (fun hJ => ?_)
              · refine J_iconst (v := (1 : Int32)) (pc := 118) dX4_does_118 (by decide) ?_
                refine J_goto (pc := 119) (tgt := 123) dX4_does_119 (by decide) ?_
                cases h
                exact J_zreturn dX4_does_123 rfl (Or.inr rfl) rfl rfl rfl rfl
              · refine J_if_ne (pc := 115) (tgt := 118) dX4_does_115 (by decide) (fun c44 => ?_) (fun c44 => ?_)
                · refine J_sub [] rfl ?_
                  exact hJ
                · refine J_sub [] rfl ?_
                  exact hJ
          · replace h := ifn c61 h
            refine J_lookup (pc := 1) (tgt := 167) dX4_does_1 (by decide) (lsw_X4_does_1 a1 c57 c58 c59 c60 c61) (by decide) ?_
            refine J_aload_n (pc := 167) dX4_does_167 rfl 0 rfl ?_
            refine J_aload_n (pc := 168) dX4_does_168 rfl 0 rfl ?_
            refine get_53_16 (pc := 169) w_1039 dX4_does_169 ?_
            refine J_callV (g := mi_X4_isCar) (ci := 4) (pc := 172) [.int (M.1 53 16)] [] mv_X4_isCar w_1166 (k_X4_isCar (M.1 53 16) _) rfl (by decide) rfl rfl rfl ⟨⟨Nat.le_of_ble_eq_true rfl, Nat.le_of_ble_eq_true rfl⟩, Nat.le_of_ble_eq_true rfl, Nat.le_of_ble_eq_true rfl⟩ (Nat.le_of_ble_eq_true rfl) dX4_does_172 (Jk_v rfl rfl fun hok45 => ?_)
            refine J_if_eq (pc := 175) (tgt := 224) dX4_does_175 (by decide) (fun c46 => ?_) (fun c46 => ?_)
            · replace h := ifp c46 h
              refine J_iconst (v := (0 : Int32)) (pc := 224) dX4_does_224 (by decide) ?_
              cases h
              exact J_zreturn dX4_does_225 rfl (Or.inl rfl) rfl rfl rfl rfl
            · replace h := ifn c46 h
              refine J_aload_n (pc := 178) dX4_does_178 rfl 0 rfl ?_
              refine J_aload_n (pc := 179) dX4_does_179 rfl 0 rfl ?_
              refine get_53_16 (pc := 180) w_1039 dX4_does_180 ?_
              refine J_aload_n (pc := 183) dX4_does_183 rfl 0 rfl ?_
              refine get_53_17 (pc := 184) w_1040 dX4_does_184 ?_
              obtain ⟨v47, hc48, h⟩ := obind_e h
              refine J_callV (g := mi_X4_canSlide) (ci := 4) (pc := 187) [.int (M.1 53 16), .int (M.1 53 17)] [] mv_X4_canSlide w_1174 (k_X4_canSlide (M.1 53 16) (M.1 53 17) _ hc48) rfl (by decide) rfl rfl rfl ⟨⟨Nat.le_of_ble_eq_true rfl, Nat.le_of_ble_eq_true rfl⟩, Nat.le_of_ble_eq_true rfl, Nat.le_of_ble_eq_true rfl⟩ (Nat.le_of_ble_eq_true rfl) dX4_does_187 (Jk_v rfl rfl fun hok49 => ?_)
              refine J_if_eq (pc := 190) (tgt := 224) dX4_does_190 (by decide) (fun c50 => ?_) (fun c50 => ?_)
              · replace h := ifp c50 h
                refine J_iconst (v := (0 : Int32)) (pc := 224) dX4_does_224 (by decide) ?_
                cases h
                exact J_zreturn dX4_does_225 rfl (Or.inl rfl) rfl rfl rfl rfl
              · replace h := ifn c50 h
                refine J_aload_n (pc := 193) dX4_does_193 rfl 0 rfl ?_
                refine get_53_3 (pc := 194) w_1026 dX4_does_194 ?_
                refine J_bipush (v := (20 : Int32)) (pc := 197) dX4_does_197 (by decide) ?_
                refine J_iald (c := 55) (N := 82) (pc := 199) ja_55 (Nat.le_of_ble_eq_true rfl) (vpc rfl) dX4_does_199 ?_
                refine J_topi (x := M.1 55 (Int32.toNatClampNeg 20)) (y := (M.1 55 20)) (Eq.symm (a := M.1 55 (Int32.toNatClampNeg 20)) (show M.1 55 20 = (M.1 55 20) from rfl)) ?_
                refine J_bipush (v := (60 : Int32)) (pc := 200) dX4_does_200 (by decide) ?_
                refine J_icmp_ge (pc := 202) (tgt := 224) dX4_does_202 (by decide) (fun c51 => ?_) (fun c51 => ?_)
                · replace h := ifp c51 h
                  refine J_iconst (v := (0 : Int32)) (pc := 224) dX4_does_224 (by decide) ?_
                  cases h
                  exact J_zreturn dX4_does_225 rfl (Or.inl rfl) rfl rfl rfl rfl
                · replace h := ifn c51 h
                  refine J_aload_n (pc := 205) dX4_does_205 rfl 0 rfl ?_
                  refine J_aload_n (pc := 206) dX4_does_206 rfl 0 rfl ?_
                  refine get_53_16 (pc := 207) w_1039 dX4_does_207 ?_
                  refine J_aload_n (pc := 210) dX4_does_210 rfl 0 rfl ?_
                  refine get_53_17 (pc := 211) w_1040 dX4_does_211 ?_
                  obtain ⟨v52, M53, hc54, h⟩ := obind2_e h
                  refine J_callV (g := mi_X4_slideOn) (ci := 4) (pc := 214) [.int (M.1 53 16), .int (M.1 53 17)] [] mv_X4_slideOn w_1182 (k_X4_slideOn (M.1 53 16) (M.1 53 17) _ hc54) rfl (by decide) rfl rfl rfl ⟨⟨Nat.le_of_ble_eq_true rfl, Nat.le_of_ble_eq_true rfl⟩, Nat.le_of_ble_eq_true rfl, Nat.le_of_ble_eq_true rfl⟩ (Nat.le_of_ble_eq_true rfl) dX4_does_214 (Jk_v rfl rfl fun hok55 => ?_)
                  refine J_if_lt (pc := 217) (tgt := 224) dX4_does_217 (by decide) (fun c56 => ?_) (fun c56 => ?_)
                  · replace h := ifp c56 h
                    refine J_iconst (v := (0 : Int32)) (pc := 224) dX4_does_224 (by decide) ?_
                    cases h
                    exact J_zreturn dX4_does_225 rfl (Or.inl rfl) rfl rfl rfl rfl
                  · replace h := ifn c56 h
                    refine J_iconst (v := (1 : Int32)) (pc := 220) dX4_does_220 (by decide) ?_
                    refine J_goto (pc := 221) (tgt := 225) dX4_does_221 (by decide) ?_
                    cases h
                    exact J_zreturn dX4_does_225 rfl (Or.inr rfl) rfl rfl rfl rfl
set_option maxHeartbeats 4000000 in
set_option maxRecDepth 100000 in
theorem kL_X4_reads_L22 {κ : Kx} {E : En} {Q : State → Prop} {ρ : Type} {r : ρ} (a1 : Int32) (K53 : Wd → Option ρ) (K88 : Wd → Option ρ) (K165 : Wd → Option ρ) (K173 : Int32 → Wd → Option ρ) (hK53 : ∀ (M : Wd), K53 M = some r → J κ E mi_X4_reads Q 0 0 [(0, .ref 53)] M 53 []) (hK88 : ∀ (M : Wd), K88 M = some r → J κ E mi_X4_reads Q 0 0 [(0, .ref 53)] M 88 []) (hK165 : ∀ (M : Wd), K165 M = some r → J κ E mi_X4_reads Q 0 0 [(0, .ref 53)] M 165 []) (hK173 : ∀ (x3 : Int32) (M : Wd), K173 x3 M = some r → J κ E mi_X4_reads Q 0 0 [(0, .ref 53), (1, .int a1), (3, .int x3)] M 173 []) : ∀ (m : Nat) (x2 : Int32) (x3 : Int32) (x4 : Int32) (M : Wd), F_X4_reads_L22 a1 K53 K88 K165 K173 m x2 x3 x4 M = some r → J κ E mi_X4_reads Q 0 0 [(0, .ref 53), (1, .int a1), (2, .int x2), (3, .int x3), (4, .int x4)] M 22 [] := by
  intro m
  induction m with
  | zero => intro x2 x3 x4 M h; exact (nomatch (show (none : Option ρ) = some r from h))
  | succ m ih =>
    intro x2 x3 x4 M h
    unfold F_X4_reads_L22 at h
    refine J_iload (pc := 22) dX4_reads_22 4 rfl ?_
    refine J_if_eq (pc := 24) (tgt := 173) dX4_reads_24 (by decide) (fun c1 => ?_) (fun c1 => ?_)
    · replace h := ifp c1 h
      refine J_sub [0, 1, 3] rfl ?_
      exact hK173 _ _ h
    · replace h := ifn c1 h
      refine J_aload_n (pc := 27) dX4_reads_27 rfl 0 rfl ?_
      refine get_53_15 (pc := 28) w_1038 dX4_reads_28 ?_
      refine J_aload_n (pc := 31) dX4_reads_31 rfl 0 rfl ?_
      refine get_53_2 (pc := 32) w_1025 dX4_reads_32 ?_
      refine J_icmp_eq (pc := 35) (tgt := 53) dX4_reads_35 (by decide) (fun c2 => ?_) (fun c2 => ?_)
      · replace h := ifp c2 h
        refine J_sub [0] rfl ?_
        exact hK53 _ h
      · replace h := ifn c2 h
        refine J_aload_n (pc := 38) dX4_reads_38 rfl 0 rfl ?_
        refine get_53_1 (pc := 39) w_1024 dX4_reads_39 ?_
        refine J_aload_n (pc := 42) dX4_reads_42 rfl 0 rfl ?_
        refine get_53_15 (pc := 43) w_1038 dX4_reads_43 ?_
        obtain ⟨v3, e4, hk5, h⟩ := ldi_e h
        refine J_iald (c := 54) (N := 60) (pc := 46) ja_54 (Nat.le_of_ble_eq_true rfl) hk5 dX4_reads_46 ?_
        refine J_topi e4 ?_
        refine J_callS (g := mi_X4_isSign) (pc := 47) [.int v3] [] ms_X4_isSign w_1284 (k_X4_isSign v3 _) rfl rfl ⟨⟨Nat.le_of_ble_eq_true rfl, Nat.le_of_ble_eq_true rfl⟩, Nat.le_of_ble_eq_true rfl, Nat.le_of_ble_eq_true rfl⟩ (Nat.le_of_ble_eq_true rfl) dX4_reads_47 (Jk_v rfl rfl fun hok6 => ?_)
        refine J_if_ne (pc := 50) (tgt := 58) dX4_reads_50 (by decide) (fun c7 => ?_) (fun c7 => ?_)
        · replace h := ifn c7 h
          refine J_aload_n (pc := 58) dX4_reads_58 rfl 0 rfl ?_
          refine get_53_1 (pc := 59) w_1024 dX4_reads_59 ?_
          refine J_aload_n (pc := 62) dX4_reads_62 rfl 0 rfl ?_
          refine get_53_15 (pc := 63) w_1038 dX4_reads_63 ?_
          obtain ⟨v8, e9, hk10, h⟩ := ldi_e h
          refine J_iald (c := 54) (N := 60) (pc := 66) ja_54 (Nat.le_of_ble_eq_true rfl) hk10 dX4_reads_66 ?_
          refine J_topi e9 ?_
          refine J_istore (pc := 67) dX4_reads_67 (Nat.le_of_ble_eq_true rfl) [1, 2, 3, 4, 5, 0] rfl ?_
          refine J_aload_n (pc := 69) dX4_reads_69 rfl 0 rfl ?_
          refine J_dup (pc := 70) dX4_reads_70 rfl ?_
          refine get_53_15 (pc := 71) w_1038 dX4_reads_71 ?_
          refine J_iconst (v := (1 : Int32)) (pc := 74) dX4_reads_74 (by decide) ?_
          refine J_iadd (pc := 75) dX4_reads_75 ?_
          refine put_53_15 (pc := 76) w_1038 dX4_reads_76 ?_
          refine J_aload_n (pc := 79) dX4_reads_79 rfl 0 rfl ?_
          refine J_iload (pc := 80) dX4_reads_80 5 rfl ?_
          obtain ⟨v11, M12, hc13, h⟩ := obind2_e h
          refine J_callV (g := mi_X4_part) (ci := 4) (pc := 82) [.int v8] [] mv_X4_part w_1289 (k_X4_part v8 _ hc13) rfl (by decide) rfl rfl rfl ⟨⟨Nat.le_of_ble_eq_true rfl, Nat.le_of_ble_eq_true rfl⟩, Nat.le_of_ble_eq_true rfl, Nat.le_of_ble_eq_true rfl⟩ (Nat.le_of_ble_eq_true rfl) dX4_reads_82 (Jk_v rfl rfl fun hok14 => ?_)
          refine J_if_ne (pc := 85) (tgt := 93) dX4_reads_85 (by decide) (fun c15 => ?_) (fun c15 => ?_)
          · replace h := ifn c15 h
            refine J_iload_n (pc := 93) dX4_reads_93 rfl 2 rfl ?_
            obtain ⟨v16, M17, hv24, h⟩ := obind2_e h
            refine J_join [(0, .ref 53), (1, .int a1), (3, .int x3)] M17 111 [.int v16] ?_ (fun hJ => ?_)
            · refine J_istore_n (pc := 111) dX4_reads_111 rfl (Nat.le_of_ble_eq_true rfl) [1, 2, 0, 3] rfl ?_
              refine J_aload_n (pc := 112) dX4_reads_112 rfl 0 rfl ?_
              refine J_dup (pc := 113) dX4_reads_113 rfl ?_
              refine get_53_20 (pc := 114) w_1043 dX4_reads_114 ?_
              refine J_iload_n (pc := 117) dX4_reads_117 rfl 2 rfl ?_
              obtain ⟨v25, e26, h⟩ := bnd_e h
              have hb28 : isB v25 := by rw [e26]; repeat (first | exact Or.inl rfl | exact Or.inr rfl | assumption | exact okB_b (by assumption) | apply isB_ite)
              refine J_join [(0, .ref 53), (1, .int a1), (2, .int v16), (3, .int x3)] M17 126 [.int v25, .int (M17.1 53 20), .ref 53] ?_ (fun hJ => ?_)
              · refine J_iadd (pc := 126) dX4_reads_126 ?_
                refine put_53_20 (pc := 127) w_1043 dX4_reads_127 ?_
                obtain ⟨v29, e30, h⟩ := bnd_e h
                refine J_iinc (v := v29) (pc := 130) dX4_reads_130 3 rfl (by rw [e30]; rfl) (Nat.le_of_ble_eq_true rfl) [1, 2, 3, 0] rfl ?_
                refine J_aload_n (pc := 133) dX4_reads_133 rfl 0 rfl ?_
                refine get_53_15 (pc := 134) w_1038 dX4_reads_134 ?_
                refine J_topi (y := (M17.1 53 15)) (Eq.symm (show (upI M17 53 20 ((M17.1 53 20) + v25)).1 53 15 = (M17.1 53 15) from (eI_kn (Nat.ne_of_beq_eq_false rfl) rfl))) ?_
                refine J_aload_n (pc := 137) dX4_reads_137 rfl 0 rfl ?_
                refine get_53_2 (pc := 138) w_1025 dX4_reads_138 ?_
                refine J_topi (y := (M17.1 53 2)) (Eq.symm (show (upI M17 53 20 ((M17.1 53 20) + v25)).1 53 2 = (M17.1 53 2) from (eI_kn (Nat.ne_of_beq_eq_false rfl) rfl))) ?_
                obtain ⟨v31, e32, h⟩ := bnd_e h
                have hb34 : isB v31 := by rw [e32]; repeat (first | exact Or.inl rfl | exact Or.inr rfl | assumption | exact okB_b (by assumption) | apply isB_ite)
                refine J_join [(0, .ref 53), (1, .int a1), (2, .int v16), (3, .int v29)] (upI M17 53 20 ((M17.1 53 20) + v25)) 149 [.int v31] ?_ (fun hJ => ?_)
                · refine J_istore (pc := 149) dX4_reads_149 (Nat.le_of_ble_eq_true rfl) [1, 2, 3, 4, 0] rfl ?_
                  refine J_iload (pc := 151) dX4_reads_151 4 rfl ?_
                  refine J_if_eq (pc := 153) (tgt := 170) dX4_reads_153 (by decide) (fun c35 => ?_) (fun c35 => ?_)
                  · replace h := ifp c35 h
                    refine J_goto (pc := 170) (tgt := 22) dX4_reads_170 (by decide) ?_
                    exact ih _ _ _ _ h
                  · replace h := ifn c35 h
                    refine J_aload_n (pc := 156) dX4_reads_156 rfl 0 rfl ?_
                    refine J_bipush (v := (59 : Int32)) (pc := 157) dX4_reads_157 (by decide) ?_
                    obtain ⟨v36, M37, hc38, h⟩ := obind2_e h
                    refine J_callV (g := mi_X4_goesOn) (ci := 4) (pc := 159) [.int (59 : Int32)] [] mv_X4_goesOn w_1301 (k_X4_goesOn (59 : Int32) _ hc38) rfl (by decide) rfl rfl rfl ⟨⟨Nat.le_of_ble_eq_true rfl, Nat.le_of_ble_eq_true rfl⟩, Nat.le_of_ble_eq_true rfl, Nat.le_of_ble_eq_true rfl⟩ (Nat.le_of_ble_eq_true rfl) dX4_reads_159 (Jk_v rfl rfl fun hok39 => ?_)
                    refine J_if_ne (pc := 162) (tgt := 170) dX4_reads_162 (by decide) (fun c40 => ?_) (fun c40 => ?_)
                    · replace h := ifn c40 h
                      refine J_goto (pc := 170) (tgt := 22) dX4_reads_170 (by decide) ?_
                      exact ih _ _ _ _ h
                    · replace h := ifp c40 h
                      refine J_sub [0] rfl ?_
                      exact hK165 _ h
                · refine J_icmp_ge (pc := 141) (tgt := 148) dX4_reads_141 (by decide) (fun c33 => ?_) (fun c33 => ?_)
                  · refine J_iconst (v := (0 : Int32)) (pc := 148) dX4_reads_148 (by decide) ?_
                    refine J_topi (y := v31) (by rw [e32, if_pos c33]) ?_
                    exact hJ
                  · refine J_iconst (v := (1 : Int32)) (pc := 144) dX4_reads_144 (by decide) ?_
                    refine J_goto (pc := 145) (tgt := 149) dX4_reads_145 (by decide) ?_
                    refine J_topi (y := v31) (by rw [e32, if_neg c33]) ?_
                    exact hJ
              · refine J_if_eq (pc := 118) (tgt := 125) dX4_reads_118 (by decide) (fun c27 => ?_) (fun c27 => ?_)
                · refine J_iconst (v := (0 : Int32)) (pc := 125) dX4_reads_125 (by decide) ?_
                  refine J_topi (y := v25) (by rw [e26, if_pos c27]) ?_
                  exact hJ
                · refine J_iconst (v := (1 : Int32)) (pc := 121) dX4_reads_121 (by decide) ?_
                  refine J_goto (pc := 122) (tgt := 126) dX4_reads_122 (by decide) ?_
                  refine J_topi (y := v25) (by rw [e26, if_neg c27]) ?_
                  exact hJ
            · replace h := hv24
              refine J_if_eq (pc := 94) (tgt := 110) dX4_reads_94 (by decide) (fun c18 => ?_) (fun c18 => ?_)
              · replace h := ifp c18 h
                refine J_iconst (v := (0 : Int32)) (pc := 110) dX4_reads_110 (by decide) ?_
                cases h
                refine J_sub [0, 1, 3] rfl ?_
                exact hJ
              · replace h := ifn c18 h
                refine J_aload_n (pc := 97) dX4_reads_97 rfl 0 rfl ?_
                refine J_iload (pc := 98) dX4_reads_98 5 rfl ?_
                obtain ⟨v19, M20, hc21, h⟩ := obind2_e h
                refine J_callV (g := mi_X4_does) (ci := 4) (pc := 100) [.int v8] [] mv_X4_does w_1313 (k_X4_does v8 _ hc21) rfl (by decide) rfl rfl rfl ⟨⟨Nat.le_of_ble_eq_true rfl, Nat.le_of_ble_eq_true rfl⟩, Nat.le_of_ble_eq_true rfl, Nat.le_of_ble_eq_true rfl⟩ (Nat.le_of_ble_eq_true rfl) dX4_reads_100 (Jk_v rfl rfl fun hok22 => ?_)
                refine J_if_eq (pc := 103) (tgt := 110) dX4_reads_103 (by decide) (fun c23 => ?_) (fun c23 => ?_)
                · replace h := ifp c23 h
                  refine J_iconst (v := (0 : Int32)) (pc := 110) dX4_reads_110 (by decide) ?_
                  cases h
                  refine J_sub [0, 1, 3] rfl ?_
                  exact hJ
                · replace h := ifn c23 h
                  refine J_iconst (v := (1 : Int32)) (pc := 106) dX4_reads_106 (by decide) ?_
                  refine J_goto (pc := 107) (tgt := 111) dX4_reads_107 (by decide) ?_
                  cases h
                  refine J_sub [0, 1, 3] rfl ?_
                  exact hJ
          · replace h := ifp c15 h
            refine J_sub [0] rfl ?_
            exact hK88 _ h
        · replace h := ifp c7 h
          refine J_sub [0] rfl ?_
          exact hK53 _ h
set_option maxHeartbeats 4000000 in
set_option maxRecDepth 100000 in
theorem k_X4_reads {E : En} (a1 : Int32) (M : Wd) {r : Int32} {M' : Wd} (h : F_X4_reads a1 M = some (r, M')) : Con E mi_X4_reads [.ref 53, .int a1] M (.inl (some (.int r))) M' := by
  unfold F_X4_reads at h
  refine Con.of (by decide) rfl (Nat.le_of_ble_eq_true rfl) (fun κ => ?_)
  show J κ E mi_X4_reads _ 0 0 [(0, .ref 53), (1, .int a1)] M 0 []
  refine J_aload_n (pc := 0) dX4_reads_0 rfl 0 rfl ?_
  refine J_iconst (v := (0 : Int32)) (pc := 1) dX4_reads_1 (by decide) ?_
  refine put_53_15 (pc := 2) w_1038 dX4_reads_2 ?_
  refine J_aload_n (pc := 5) dX4_reads_5 rfl 0 rfl ?_
  refine J_iconst (v := (0 : Int32)) (pc := 6) dX4_reads_6 (by decide) ?_
  refine put_53_20 (pc := 7) w_1043 dX4_reads_7 ?_
  refine J_aload_n (pc := 10) dX4_reads_10 rfl 0 rfl ?_
  refine J_iconst (v := (0 : Int32)) (pc := 11) dX4_reads_11 (by decide) ?_
  refine put_53_19 (pc := 12) w_1042 (Or.inl rfl) dX4_reads_12 ?_
  refine J_iload_n (pc := 15) dX4_reads_15 rfl 1 rfl ?_
  refine J_istore_n (pc := 16) dX4_reads_16 rfl (Nat.le_of_ble_eq_true rfl) [1, 2, 0] rfl ?_
  refine J_iconst (v := (0 : Int32)) (pc := 17) dX4_reads_17 (by decide) ?_
  refine J_istore_n (pc := 18) dX4_reads_18 rfl (Nat.le_of_ble_eq_true rfl) [1, 2, 3, 0] rfl ?_
  refine J_LS [(0, .ref 53), (1, .int a1), (2, .int a1), (3, .int (0 : Int32))] [] rfl rfl ?_
  refine J_iconst (v := (1 : Int32)) (pc := 19) dX4_reads_19 (by decide) ?_
  refine J_istore (pc := 20) dX4_reads_20 (Nat.le_of_ble_eq_true rfl) [1, 2, 3, 4, 0] rfl ?_
  refine kL_X4_reads_L22 _ _ _ _ _ (fun M41 h => ?_) (fun M42 h => ?_) (fun M43 h => ?_) (fun v44 M45 h => ?_) fuelN _ _ _ _ h
  · refine J_aload_n (pc := 53) dX4_reads_53 rfl 0 rfl ?_
    refine get_53_15 (pc := 54) w_1038 dX4_reads_54 ?_
    cases h
    exact J_ireturn dX4_reads_57 rfl rfl rfl rfl rfl
  · refine J_aload_n (pc := 88) dX4_reads_88 rfl 0 rfl ?_
    refine get_53_15 (pc := 89) w_1038 dX4_reads_89 ?_
    cases h
    exact J_ireturn dX4_reads_92 rfl rfl rfl rfl rfl
  · refine J_aload_n (pc := 165) dX4_reads_165 rfl 0 rfl ?_
    refine get_53_15 (pc := 166) w_1038 dX4_reads_166 ?_
    cases h
    exact J_ireturn dX4_reads_169 rfl rfl rfl rfl rfl
  · refine J_aload_n (pc := 173) dX4_reads_173 rfl 0 rfl ?_
    refine J_iconst (v := (1 : Int32)) (pc := 174) dX4_reads_174 (by decide) ?_
    refine put_53_19 (pc := 175) w_1042 (Or.inr rfl) dX4_reads_175 ?_
    refine J_aload_n (pc := 178) dX4_reads_178 rfl 0 rfl ?_
    refine get_53_3 (pc := 179) w_1026 dX4_reads_179 ?_
    refine J_bipush (v := (81 : Int32)) (pc := 182) dX4_reads_182 (by decide) ?_
    refine J_iload_n (pc := 184) dX4_reads_184 rfl 1 rfl ?_
    obtain ⟨v46, e47, h⟩ := bnd_e h
    refine J_join [(0, .ref 53)] (upI M45 53 19 (1 : Int32)) 214 [.int v46, .int (81 : Int32), .ref 55] ?_ (fun hJ => ?_)
    · refine J_iast (c := 55) (N := 82) (pc := 214) (fun _ => ja_55) (Nat.le_of_ble_eq_true rfl) (vpc rfl) dX4_reads_214 ?_
      refine J_M (upI (upI M45 53 19 (1 : Int32)) 55 81 v46) rfl ?_
      refine J_aload_n (pc := 215) dX4_reads_215 rfl 0 rfl ?_
      refine get_53_2 (pc := 216) w_1025 dX4_reads_216 ?_
      refine J_topi (y := (M45.1 53 2)) (Eq.symm (show (upI (upI M45 53 19 (1 : Int32)) 55 81 v46).1 53 2 = (M45.1 53 2) from (eI_ne (Nat.ne_of_beq_eq_false rfl) (eI_kn (Nat.ne_of_beq_eq_false rfl) rfl)))) ?_
      cases h
      exact J_ireturn dX4_reads_219 rfl rfl rfl rfl rfl
    · refine J_if_ne (pc := 185) (tgt := 198) dX4_reads_185 (by decide) (fun c48 => ?_) (fun c48 => ?_)
      · refine J_aload_n (pc := 198) dX4_reads_198 rfl 0 rfl ?_
        refine get_53_20 (pc := 199) w_1043 dX4_reads_199 ?_
        refine J_topi (y := (M45.1 53 20)) (Eq.symm (show (upI M45 53 19 (1 : Int32)).1 53 20 = (M45.1 53 20) from (eI_kn (Nat.ne_of_beq_eq_false rfl) rfl))) ?_
        refine J_iload_n (pc := 202) dX4_reads_202 rfl 2 rfl ?_
        refine J_icmp_ge (pc := 203) (tgt := 213) dX4_reads_203 (by decide) (fun c49 => ?_) (fun c49 => ?_)
        · refine J_iconst (v := (-1 : Int32)) (pc := 213) dX4_reads_213 (by decide) ?_
          refine J_sub [0] rfl ?_
          refine J_topi (y := v46) (by rw [e47, if_neg c48, if_pos c49]) ?_
          exact hJ
        · refine J_aload_n (pc := 206) dX4_reads_206 rfl 0 rfl ?_
          refine get_53_20 (pc := 207) w_1043 dX4_reads_207 ?_
          refine J_topi (y := (M45.1 53 20)) (Eq.symm (show (upI M45 53 19 (1 : Int32)).1 53 20 = (M45.1 53 20) from (eI_kn (Nat.ne_of_beq_eq_false rfl) rfl))) ?_
          refine J_goto (pc := 210) (tgt := 214) dX4_reads_210 (by decide) ?_
          refine J_sub [0] rfl ?_
          refine J_topi (y := v46) (by rw [e47, if_neg c48, if_neg c49]) ?_
          exact hJ
      · refine J_aload_n (pc := 188) dX4_reads_188 rfl 0 rfl ?_
        refine get_53_3 (pc := 189) w_1026 dX4_reads_189 ?_
        refine J_bipush (v := (81 : Int32)) (pc := 192) dX4_reads_192 (by decide) ?_
        refine J_iald (c := 55) (N := 82) (pc := 194) ja_55 (Nat.le_of_ble_eq_true rfl) (vpc rfl) dX4_reads_194 ?_
        refine J_topi (x := (upI M45 53 19 (1 : Int32)).1 55 (Int32.toNatClampNeg 81)) (y := (M45.1 55 81)) (Eq.symm (a := (upI M45 53 19 (1 : Int32)).1 55 (Int32.toNatClampNeg 81)) (show (upI M45 53 19 (1 : Int32)).1 55 81 = (M45.1 55 81) from (eI_ne (Nat.ne_of_beq_eq_false rfl) rfl))) ?_
        refine J_goto (pc := 195) (tgt := 214) dX4_reads_195 (by decide) ?_
        refine J_sub [0] rfl ?_
        refine J_topi (y := v46) (by rw [e47, if_pos c48]) ?_
        exact hJ
set_option maxHeartbeats 4000000 in
set_option maxRecDepth 100000 in
theorem k_X4_firstError {E : En} (M : Wd) {r : Int32} {M' : Wd} (h : F_X4_firstError M = some (r, M')) : Con E mi_X4_firstError [.ref 53] M (.inl (some (.int r))) M' := by
  unfold F_X4_firstError at h
  refine Con.of (by decide) rfl (Nat.le_of_ble_eq_true rfl) (fun κ => ?_)
  show J κ E mi_X4_firstError _ 0 0 [(0, .ref 53)] M 0 []
  refine J_aload_n (pc := 0) dX4_firstError_0 rfl 0 rfl ?_
  refine J_iconst (v := (0 : Int32)) (pc := 1) dX4_firstError_1 (by decide) ?_
  refine put_53_0 (pc := 2) w_1023 dX4_firstError_2 ?_
  refine J_aload_n (pc := 5) dX4_firstError_5 rfl 0 rfl ?_
  refine J_iconst (v := (0 : Int32)) (pc := 6) dX4_firstError_6 (by decide) ?_
  obtain ⟨v1, M2, hc3, h⟩ := obind2_e h
  refine J_callV (g := mi_X4_reads) (ci := 4) (pc := 7) [.int (0 : Int32)] [] mv_X4_reads w_1280 (k_X4_reads (0 : Int32) _ hc3) rfl (by decide) rfl rfl rfl ⟨⟨Nat.le_of_ble_eq_true rfl, Nat.le_of_ble_eq_true rfl⟩, Nat.le_of_ble_eq_true rfl, Nat.le_of_ble_eq_true rfl⟩ (Nat.le_of_ble_eq_true rfl) dX4_firstError_7 (Jk_v rfl rfl fun hok4 => ?_)
  cases h
  exact J_ireturn dX4_firstError_10 rfl rfl rfl rfl rfl
set_option maxHeartbeats 4000000 in
set_option maxRecDepth 100000 in
theorem k_X4_work {E : En} (M : Wd) {r : Int32} {M' : Wd} (h : F_X4_work M = some (r, M')) : Con E mi_X4_work [.ref 53] M (.inl (some (.int r))) M' := by
  unfold F_X4_work at h
  refine Con.of (by decide) rfl (Nat.le_of_ble_eq_true rfl) (fun κ => ?_)
  show J κ E mi_X4_work _ 0 0 [(0, .ref 53)] M 0 []
  refine J_aload_n (pc := 0) dX4_work_0 rfl 0 rfl ?_
  refine J_iconst (v := (0 : Int32)) (pc := 1) dX4_work_1 (by decide) ?_
  obtain ⟨v1, M2, hc3, h⟩ := obind2_e h
  refine J_callV (g := mi_X4_reads) (ci := 4) (pc := 2) [.int (0 : Int32)] [] mv_X4_reads w_1280 (k_X4_reads (0 : Int32) _ hc3) rfl (by decide) rfl rfl rfl ⟨⟨Nat.le_of_ble_eq_true rfl, Nat.le_of_ble_eq_true rfl⟩, Nat.le_of_ble_eq_true rfl, Nat.le_of_ble_eq_true rfl⟩ (Nat.le_of_ble_eq_true rfl) dX4_work_2 (Jk_v rfl rfl fun hok4 => ?_)
  refine J_pop (pc := 5) dX4_work_5 rfl ?_
  refine J_aload_n (pc := 6) dX4_work_6 rfl 0 rfl ?_
  refine J_aload_n (pc := 7) dX4_work_7 rfl 0 rfl ?_
  refine get_53_19 (pc := 8) w_1042 dX4_work_8 ?_
  obtain ⟨v5, e6, h⟩ := bnd_e h
  have hb8 : isB v5 := by rw [e6]; repeat (first | exact Or.inl rfl | exact Or.inr rfl | assumption | exact okB_b (by assumption) | apply isB_ite)
  refine J_join [(0, .ref 53)] M2 19 [.int v5, .ref 53] ?_ (fun hJ => ?_)
  · obtain ⟨v9, M10, hc11, h⟩ := obind2_e h
    refine J_callV (g := mi_X4_refused) (ci := 4) (pc := 19) [.int v5] [] mv_X4_refused w_1120 (k_X4_refused v5 _ hc11) rfl (by decide) rfl rfl rfl ⟨⟨Nat.le_of_ble_eq_true rfl, Nat.le_of_ble_eq_true rfl⟩, Nat.le_of_ble_eq_true rfl, Nat.le_of_ble_eq_true rfl⟩ (Nat.le_of_ble_eq_true rfl) dX4_work_19 (Jk_v rfl rfl fun hok12 => ?_)
    refine J_if_eq (pc := 22) (tgt := 27) dX4_work_22 (by decide) (fun c13 => ?_) (fun c13 => ?_)
    · replace h := ifp c13 h
      refine J_aload_n (pc := 27) dX4_work_27 rfl 0 rfl ?_
      obtain ⟨M14, hc15, h⟩ := obind_e h
      refine J_callV (g := mi_X4_saves) (ci := 4) (pc := 28) [] [] mv_X4_saves w_1124 (k_X4_saves _ hc15) rfl (by decide) rfl rfl rfl ⟨⟨Nat.le_of_ble_eq_true rfl, Nat.le_of_ble_eq_true rfl⟩, Nat.le_of_ble_eq_true rfl, Nat.le_of_ble_eq_true rfl⟩ (Nat.le_of_ble_eq_true rfl) dX4_work_28 (Jk_0 rfl rfl ?_)
      refine J_aload_n (pc := 31) dX4_work_31 rfl 0 rfl ?_
      refine J_iconst (v := (1 : Int32)) (pc := 32) dX4_work_32 (by decide) ?_
      obtain ⟨v16, M17, hc18, h⟩ := obind2_e h
      refine J_callV (g := mi_X4_reads) (ci := 4) (pc := 33) [.int (1 : Int32)] [] mv_X4_reads w_1280 (k_X4_reads (1 : Int32) _ hc18) rfl (by decide) rfl rfl rfl ⟨⟨Nat.le_of_ble_eq_true rfl, Nat.le_of_ble_eq_true rfl⟩, Nat.le_of_ble_eq_true rfl, Nat.le_of_ble_eq_true rfl⟩ (Nat.le_of_ble_eq_true rfl) dX4_work_33 (Jk_v rfl rfl fun hok19 => ?_)
      refine J_pop (pc := 36) dX4_work_36 rfl ?_
      refine J_aload_n (pc := 37) dX4_work_37 rfl 0 rfl ?_
      refine J_iconst (v := (0 : Int32)) (pc := 38) dX4_work_38 (by decide) ?_
      refine put_53_2 (pc := 39) w_1025 dX4_work_39 ?_
      refine J_aload_n (pc := 42) dX4_work_42 rfl 0 rfl ?_
      refine get_53_20 (pc := 43) w_1043 dX4_work_43 ?_
      refine J_topi (y := (M17.1 53 20)) (Eq.symm (show (upI M17 53 2 (0 : Int32)).1 53 20 = (M17.1 53 20) from (eI_kn (Nat.ne_of_beq_eq_false rfl) rfl))) ?_
      cases h
      exact J_ireturn dX4_work_46 rfl rfl rfl rfl rfl
    · replace h := ifn c13 h
      refine J_iconst (v := (0 : Int32)) (pc := 25) dX4_work_25 (by decide) ?_
      cases h
      exact J_ireturn dX4_work_26 rfl rfl rfl rfl rfl
  · refine J_if_eq (pc := 11) (tgt := 18) dX4_work_11 (by decide) (fun c7 => ?_) (fun c7 => ?_)
    · refine J_iconst (v := (1 : Int32)) (pc := 18) dX4_work_18 (by decide) ?_
      refine J_topi (y := v5) (by rw [e6, if_pos c7]) ?_
      exact hJ
    · refine J_iconst (v := (0 : Int32)) (pc := 14) dX4_work_14 (by decide) ?_
      refine J_goto (pc := 15) (tgt := 19) dX4_work_15 (by decide) ?_
      refine J_topi (y := v5) (by rw [e6, if_neg c7]) ?_
      exact hJ
set_option maxHeartbeats 4000000 in
set_option maxRecDepth 100000 in
theorem k_X4_hasStopped {E : En} (M : Wd) {r : Int32} {M' : Wd} (h : F_X4_hasStopped M = some (r, M')) : Con E mi_X4_hasStopped [.ref 53] M (.inl (some (.int r))) M' := by
  unfold F_X4_hasStopped at h
  refine Con.of (by decide) rfl (Nat.le_of_ble_eq_true rfl) (fun κ => ?_)
  show J κ E mi_X4_hasStopped _ 0 0 [(0, .ref 53)] M 0 []
  refine J_aload_n (pc := 0) dX4_hasStopped_0 rfl 0 rfl ?_
  refine J_iconst (v := (0 : Int32)) (pc := 1) dX4_hasStopped_1 (by decide) ?_
  refine put_53_0 (pc := 2) w_1023 dX4_hasStopped_2 ?_
  refine J_aload_n (pc := 5) dX4_hasStopped_5 rfl 0 rfl ?_
  refine get_53_3 (pc := 6) w_1026 dX4_hasStopped_6 ?_
  refine J_bipush (v := (81 : Int32)) (pc := 9) dX4_hasStopped_9 (by decide) ?_
  refine J_iald (c := 55) (N := 82) (pc := 11) ja_55 (Nat.le_of_ble_eq_true rfl) (vpc rfl) dX4_hasStopped_11 ?_
  refine J_topi (x := (upI M 53 0 (0 : Int32)).1 55 (Int32.toNatClampNeg 81)) (y := (M.1 55 81)) (Eq.symm (a := (upI M 53 0 (0 : Int32)).1 55 (Int32.toNatClampNeg 81)) (show (upI M 53 0 (0 : Int32)).1 55 81 = (M.1 55 81) from (eI_ne (Nat.ne_of_beq_eq_false rfl) rfl))) ?_
  refine J_iconst (v := (-1 : Int32)) (pc := 12) dX4_hasStopped_12 (by decide) ?_
  refine J_icmp_eq (pc := 13) (tgt := 20) dX4_hasStopped_13 (by decide) (fun c1 => ?_) (fun c1 => ?_)
  · replace h := ifp c1 h
    refine J_iconst (v := (0 : Int32)) (pc := 20) dX4_hasStopped_20 (by decide) ?_
    cases h
    exact J_zreturn dX4_hasStopped_21 rfl (Or.inl rfl) rfl rfl rfl rfl
  · replace h := ifn c1 h
    refine J_iconst (v := (1 : Int32)) (pc := 16) dX4_hasStopped_16 (by decide) ?_
    refine J_goto (pc := 17) (tgt := 21) dX4_hasStopped_17 (by decide) ?_
    cases h
    exact J_zreturn dX4_hasStopped_21 rfl (Or.inr rfl) rfl rfl rfl rfl
set_option maxHeartbeats 4000000 in
set_option maxRecDepth 100000 in
theorem k_X4_stoppedPart {E : En} (M : Wd) {r : Int32} {M' : Wd} (h : F_X4_stoppedPart M = some (r, M')) : Con E mi_X4_stoppedPart [.ref 53] M (.inl (some (.int r))) M' := by
  unfold F_X4_stoppedPart at h
  refine Con.of (by decide) rfl (Nat.le_of_ble_eq_true rfl) (fun κ => ?_)
  show J κ E mi_X4_stoppedPart _ 0 0 [(0, .ref 53)] M 0 []
  refine J_aload_n (pc := 0) dX4_stoppedPart_0 rfl 0 rfl ?_
  refine J_aload_n (pc := 1) dX4_stoppedPart_1 rfl 0 rfl ?_
  refine get_53_3 (pc := 2) w_1026 dX4_stoppedPart_2 ?_
  refine J_bipush (v := (81 : Int32)) (pc := 5) dX4_stoppedPart_5 (by decide) ?_
  refine J_iald (c := 55) (N := 82) (pc := 7) ja_55 (Nat.le_of_ble_eq_true rfl) (vpc rfl) dX4_stoppedPart_7 ?_
  refine J_topi (x := M.1 55 (Int32.toNatClampNeg 81)) (y := (M.1 55 81)) (Eq.symm (a := M.1 55 (Int32.toNatClampNeg 81)) (show M.1 55 81 = (M.1 55 81) from rfl)) ?_
  refine J_iconst (v := (-1 : Int32)) (pc := 8) dX4_stoppedPart_8 (by decide) ?_
  obtain ⟨v1, e2, h⟩ := bnd_e h
  have hb4 : isB v1 := by rw [e2]; repeat (first | exact Or.inl rfl | exact Or.inr rfl | assumption | exact okB_b (by assumption) | apply isB_ite)
  refine J_join [(0, .ref 53)] M 17 [.int v1, .ref 53] ?_ (fun hJ => ?_)
  · obtain ⟨v5, M6, hc7, h⟩ := obind2_e h
    refine J_callV (g := mi_X4_refused) (ci := 4) (pc := 17) [.int v1] [] mv_X4_refused w_1120 (k_X4_refused v1 _ hc7) rfl (by decide) rfl rfl rfl ⟨⟨Nat.le_of_ble_eq_true rfl, Nat.le_of_ble_eq_true rfl⟩, Nat.le_of_ble_eq_true rfl, Nat.le_of_ble_eq_true rfl⟩ (Nat.le_of_ble_eq_true rfl) dX4_stoppedPart_17 (Jk_v rfl rfl fun hok8 => ?_)
    refine J_if_eq (pc := 20) (tgt := 27) dX4_stoppedPart_20 (by decide) (fun c9 => ?_) (fun c9 => ?_)
    · replace h := ifp c9 h
      refine J_aload_n (pc := 27) dX4_stoppedPart_27 rfl 0 rfl ?_
      refine get_53_3 (pc := 28) w_1026 dX4_stoppedPart_28 ?_
      refine J_bipush (v := (81 : Int32)) (pc := 31) dX4_stoppedPart_31 (by decide) ?_
      refine J_iald (c := 55) (N := 82) (pc := 33) ja_55 (Nat.le_of_ble_eq_true rfl) (vpc rfl) dX4_stoppedPart_33 ?_
      refine J_topi (x := M6.1 55 (Int32.toNatClampNeg 81)) (y := (M6.1 55 81)) (Eq.symm (a := M6.1 55 (Int32.toNatClampNeg 81)) (show M6.1 55 81 = (M6.1 55 81) from rfl)) ?_
      cases h
      exact J_ireturn dX4_stoppedPart_34 rfl rfl rfl rfl rfl
    · replace h := ifn c9 h
      refine J_iconst (v := (0 : Int32)) (pc := 23) dX4_stoppedPart_23 (by decide) ?_
      refine J_goto (pc := 24) (tgt := 34) dX4_stoppedPart_24 (by decide) ?_
      cases h
      exact J_ireturn dX4_stoppedPart_34 rfl rfl rfl rfl rfl
  · refine J_icmp_ne (pc := 9) (tgt := 16) dX4_stoppedPart_9 (by decide) (fun c3 => ?_) (fun c3 => ?_)
    · refine J_iconst (v := (0 : Int32)) (pc := 16) dX4_stoppedPart_16 (by decide) ?_
      refine J_topi (y := v1) (by rw [e2, if_neg c3]) ?_
      exact hJ
    · refine J_iconst (v := (1 : Int32)) (pc := 12) dX4_stoppedPart_12 (by decide) ?_
      refine J_goto (pc := 13) (tgt := 17) dX4_stoppedPart_13 (by decide) ?_
      refine J_topi (y := v1) (by rw [e2, if_pos c3]) ?_
      exact hJ
set_option maxHeartbeats 4000000 in
set_option maxRecDepth 100000 in
theorem k_X4_undo {E : En} (M : Wd) {r : Int32} {M' : Wd} (h : F_X4_undo M = some (r, M')) : Con E mi_X4_undo [.ref 53] M (.inl (some (.int r))) M' := by
  unfold F_X4_undo at h
  refine Con.of (by decide) rfl (Nat.le_of_ble_eq_true rfl) (fun κ => ?_)
  show J κ E mi_X4_undo _ 0 0 [(0, .ref 53)] M 0 []
  refine J_aload_n (pc := 0) dX4_undo_0 rfl 0 rfl ?_
  refine J_aload_n (pc := 1) dX4_undo_1 rfl 0 rfl ?_
  refine get_53_5 (pc := 2) w_1028 dX4_undo_2 ?_
  obtain ⟨v1, e2, h⟩ := bnd_e h
  have hb4 : isB v1 := by rw [e2]; repeat (first | exact Or.inl rfl | exact Or.inr rfl | assumption | exact okB_b (by assumption) | apply isB_ite)
  refine J_join [(0, .ref 53)] M 13 [.int v1, .ref 53] ?_ (fun hJ => ?_)
  · obtain ⟨v5, M6, hc7, h⟩ := obind2_e h
    refine J_callV (g := mi_X4_refused) (ci := 4) (pc := 13) [.int v1] [] mv_X4_refused w_1120 (k_X4_refused v1 _ hc7) rfl (by decide) rfl rfl rfl ⟨⟨Nat.le_of_ble_eq_true rfl, Nat.le_of_ble_eq_true rfl⟩, Nat.le_of_ble_eq_true rfl, Nat.le_of_ble_eq_true rfl⟩ (Nat.le_of_ble_eq_true rfl) dX4_undo_13 (Jk_v rfl rfl fun hok8 => ?_)
    refine J_if_eq (pc := 16) (tgt := 21) dX4_undo_16 (by decide) (fun c9 => ?_) (fun c9 => ?_)
    · replace h := ifp c9 h
      refine J_aload_n (pc := 21) dX4_undo_21 rfl 0 rfl ?_
      refine J_dup (pc := 22) dX4_undo_22 rfl ?_
      refine get_53_5 (pc := 23) w_1028 dX4_undo_23 ?_
      refine J_iconst (v := (1 : Int32)) (pc := 26) dX4_undo_26 (by decide) ?_
      refine J_isub (pc := 27) dX4_undo_27 ?_
      refine put_53_5 (pc := 28) w_1028 dX4_undo_28 ?_
      refine J_aload_n (pc := 31) dX4_undo_31 rfl 0 rfl ?_
      refine get_53_4 (pc := 32) w_1027 dX4_undo_32 ?_
      refine J_bipush (v := (82 : Int32)) (pc := 35) dX4_undo_35 (by decide) ?_
      refine J_aload_n (pc := 37) dX4_undo_37 rfl 0 rfl ?_
      refine get_53_5 (pc := 38) w_1028 dX4_undo_38 ?_
      refine J_topi (y := ((M6.1 53 5) - (1 : Int32))) (Eq.symm (show (upI M6 53 5 ((M6.1 53 5) - (1 : Int32))).1 53 5 = ((M6.1 53 5) - (1 : Int32)) from eI_kk)) ?_
      refine J_imul (pc := 41) dX4_undo_41 ?_
      refine J_aload_n (pc := 42) dX4_undo_42 rfl 0 rfl ?_
      refine get_53_3 (pc := 43) w_1026 dX4_undo_43 ?_
      refine J_iconst (v := (0 : Int32)) (pc := 46) dX4_undo_46 (by decide) ?_
      obtain ⟨M10, hc11, h⟩ := obind_e h
      refine J_callS (g := mi_X4_copyState) (pc := 47) [.ref 56, .int ((82 : Int32) * ((M6.1 53 5) - (1 : Int32))), .ref 55, .int (0 : Int32)] [] ms_X4_copyState w_1128 (k_X4_copyState_56_55 ((82 : Int32) * ((M6.1 53 5) - (1 : Int32))) (0 : Int32) _ hc11) rfl rfl ⟨⟨Nat.le_of_ble_eq_true rfl, Nat.le_of_ble_eq_true rfl⟩, Nat.le_of_ble_eq_true rfl, Nat.le_of_ble_eq_true rfl⟩ (Nat.le_of_ble_eq_true rfl) dX4_undo_47 (Jk_0 rfl rfl ?_)
      refine J_aload_n (pc := 50) dX4_undo_50 rfl 0 rfl ?_
      refine get_53_5 (pc := 51) w_1028 dX4_undo_51 ?_
      cases h
      exact J_ireturn dX4_undo_54 rfl rfl rfl rfl rfl
    · replace h := ifn c9 h
      refine J_iconst (v := (0 : Int32)) (pc := 19) dX4_undo_19 (by decide) ?_
      cases h
      exact J_ireturn dX4_undo_20 rfl rfl rfl rfl rfl
  · refine J_if_le (pc := 5) (tgt := 12) dX4_undo_5 (by decide) (fun c3 => ?_) (fun c3 => ?_)
    · refine J_iconst (v := (1 : Int32)) (pc := 12) dX4_undo_12 (by decide) ?_
      refine J_topi (y := v1) (by rw [e2, if_pos c3]) ?_
      exact hJ
    · refine J_iconst (v := (0 : Int32)) (pc := 8) dX4_undo_8 (by decide) ?_
      refine J_goto (pc := 9) (tgt := 13) dX4_undo_9 (by decide) ?_
      refine J_topi (y := v1) (by rw [e2, if_neg c3]) ?_
      exact hJ

/-! ===== walks of the law's helpers, 4 ===== -/
set_option maxHeartbeats 4000000 in
set_option maxRecDepth 100000 in
theorem k_L_act {E : En} (a1 : Int32) (M : Wd) {r : Int32} {M' : Wd} (h : F_L_act a1 M = some (r, M')) : Con E mi_L_act [.ref 0, .int a1] M (.inl (some (.int r))) M' := by
  unfold F_L_act at h
  refine Con.of (by decide) rfl (Nat.le_of_ble_eq_true rfl) (fun κ => ?_)
  show J κ E mi_L_act _ 0 0 [(0, .ref 0), (1, .int a1)] M 0 []
  refine J_iload_n (pc := 0) dL_act_0 rfl 1 rfl ?_
  refine J_bipush (v := (16 : Int32)) (pc := 1) dL_act_1 (by decide) ?_
  refine J_idiv (pc := 3) dL_act_3 (by decide) ?_
  obtain ⟨v1, e2, h⟩ := bnd_e h
  refine J_topi e2 ?_
  refine J_istore_n (pc := 4) dL_act_4 rfl (Nat.le_of_ble_eq_true rfl) [1, 2, 0] rfl ?_
  refine J_iload_n (pc := 5) dL_act_5 rfl 1 rfl ?_
  refine J_bipush (v := (16 : Int32)) (pc := 6) dL_act_6 (by decide) ?_
  refine J_irem (pc := 8) dL_act_8 (by decide) ?_
  obtain ⟨v3, e4, h⟩ := bnd_e h
  refine J_topi e4 ?_
  by_cases c71 : v3 = 0
  · replace h := ifp c71 h
    refine J_topi c71.symm ?_
    refine J_tableIn (pc := 9) (tgt := 52) dL_act_9 (by decide) (by decide) rfl (by decide) ?_
    refine J_aload_n (pc := 52) dL_act_52 rfl 0 rfl ?_
    refine J_iconst (v := (0 : Int32)) (pc := 53) dL_act_53 (by decide) ?_
    refine J_aload_n (pc := 54) dL_act_54 rfl 0 rfl ?_
    refine J_callV (g := mi_X3_cars) (ci := 3) (pc := 55) [] [.int (0 : Int32), .ref 0] mv_X3_cars w_427 (k_X3_cars  _) rfl (by decide) rfl rfl rfl ⟨⟨Nat.le_of_ble_eq_true rfl, Nat.le_of_ble_eq_true rfl⟩, Nat.le_of_ble_eq_true rfl, Nat.le_of_ble_eq_true rfl⟩ (Nat.le_of_ble_eq_true rfl) dL_act_55 (Jk_v rfl rfl fun hok5 => ?_)
    obtain ⟨v6, e7, h⟩ := bnd_e h
    refine J_join [(2, .int v1)] M 71 [.int v6, .int (0 : Int32), .ref 0] ?_ (fun hJ => ?_)
    · refine J_iload_n (pc := 71) dL_act_71 rfl 0 rfl ?_
      refine J_bipush (v := (20 : Int32)) (pc := 72) dL_act_72 (by decide) ?_
      refine J_idiv (pc := 74) dL_act_74 (by decide) ?_
      refine J_iconst (v := (4 : Int32)) (pc := 75) dL_act_75 (by decide) ?_
      refine J_irem (pc := 76) dL_act_76 (by decide) ?_
      refine J_iconst (v := (2 : Int32)) (pc := 77) dL_act_77 (by decide) ?_
      refine J_iload_n (pc := 78) dL_act_78 rfl 0 rfl ?_
      refine J_bipush (v := (10 : Int32)) (pc := 79) dL_act_79 (by decide) ?_
      refine J_idiv (pc := 81) dL_act_81 (by decide) ?_
      refine J_iconst (v := (2 : Int32)) (pc := 82) dL_act_82 (by decide) ?_
      refine J_irem (pc := 83) dL_act_83 (by decide) ?_
      refine J_iadd (pc := 84) dL_act_84 ?_
      obtain ⟨v9, M10, hc11, h⟩ := obind2_e h
      refine J_callS (g := mi_L_call) (pc := 85) [.ref 0, .int (0 : Int32), .int v6, .int ((v1 / (20 : Int32)) - (v1 / (20 : Int32)) / (4 : Int32) * (4 : Int32)), .int ((2 : Int32) + ((v1 / (10 : Int32)) - (v1 / (10 : Int32)) / (2 : Int32) * (2 : Int32)))] [] ms_L_call w_431 (k_L_call  (0 : Int32) v6 ((v1 / (20 : Int32)) - (v1 / (20 : Int32)) / (4 : Int32) * (4 : Int32)) ((2 : Int32) + ((v1 / (10 : Int32)) - (v1 / (10 : Int32)) / (2 : Int32) * (2 : Int32))) _ hc11) rfl rfl ⟨⟨Nat.le_of_ble_eq_true rfl, Nat.le_of_ble_eq_true rfl⟩, Nat.le_of_ble_eq_true rfl, Nat.le_of_ble_eq_true rfl⟩ (Nat.le_of_ble_eq_true rfl) dL_act_85 (Jk_vk 2 12 rfl rfl fun hok12 => ?_)
      cases h
      refine J_wide (k' := 2) (n' := 12) (Nat.le_of_ble_eq_true rfl) (Nat.le_of_ble_eq_true rfl) ?_
      exact J_ireturn dL_act_88 rfl rfl rfl rfl rfl
    · refine J_if_ne (pc := 58) (tgt := 67) dL_act_58 (by decide) (fun c8 => ?_) (fun c8 => ?_)
      · refine J_iload_n (pc := 67) dL_act_67 rfl 2 rfl ?_
        refine J_bipush (v := (10 : Int32)) (pc := 68) dL_act_68 (by decide) ?_
        refine J_irem (pc := 70) dL_act_70 (by decide) ?_
        refine J_sub [2] rfl ?_
        refine J_topi (y := v6) (by rw [e7, if_neg c8]) ?_
        exact hJ
      · refine J_iload_n (pc := 61) dL_act_61 rfl 2 rfl ?_
        refine J_iconst (v := (5 : Int32)) (pc := 62) dL_act_62 (by decide) ?_
        refine J_irem (pc := 63) dL_act_63 (by decide) ?_
        refine J_goto (pc := 64) (tgt := 71) dL_act_64 (by decide) ?_
        refine J_sub [2] rfl ?_
        refine J_topi (y := v6) (by rw [e7, if_pos c8]) ?_
        exact hJ
  · replace h := ifn c71 h
    by_cases c72 : v3 = 1
    · replace h := ifp c72 h
      refine J_topi c72.symm ?_
      refine J_tableIn (pc := 9) (tgt := 52) dL_act_9 (by decide) (by decide) rfl (by decide) ?_
      refine J_aload_n (pc := 52) dL_act_52 rfl 0 rfl ?_
      refine J_iconst (v := (0 : Int32)) (pc := 53) dL_act_53 (by decide) ?_
      refine J_aload_n (pc := 54) dL_act_54 rfl 0 rfl ?_
      refine J_callV (g := mi_X3_cars) (ci := 3) (pc := 55) [] [.int (0 : Int32), .ref 0] mv_X3_cars w_427 (k_X3_cars  _) rfl (by decide) rfl rfl rfl ⟨⟨Nat.le_of_ble_eq_true rfl, Nat.le_of_ble_eq_true rfl⟩, Nat.le_of_ble_eq_true rfl, Nat.le_of_ble_eq_true rfl⟩ (Nat.le_of_ble_eq_true rfl) dL_act_55 (Jk_v rfl rfl fun hok13 => ?_)
      obtain ⟨v14, e15, h⟩ := bnd_e h
      refine J_join [(2, .int v1)] M 71 [.int v14, .int (0 : Int32), .ref 0] ?_ (fun hJ => ?_)
      · refine J_iload_n (pc := 71) dL_act_71 rfl 0 rfl ?_
        refine J_bipush (v := (20 : Int32)) (pc := 72) dL_act_72 (by decide) ?_
        refine J_idiv (pc := 74) dL_act_74 (by decide) ?_
        refine J_iconst (v := (4 : Int32)) (pc := 75) dL_act_75 (by decide) ?_
        refine J_irem (pc := 76) dL_act_76 (by decide) ?_
        refine J_iconst (v := (2 : Int32)) (pc := 77) dL_act_77 (by decide) ?_
        refine J_iload_n (pc := 78) dL_act_78 rfl 0 rfl ?_
        refine J_bipush (v := (10 : Int32)) (pc := 79) dL_act_79 (by decide) ?_
        refine J_idiv (pc := 81) dL_act_81 (by decide) ?_
        refine J_iconst (v := (2 : Int32)) (pc := 82) dL_act_82 (by decide) ?_
        refine J_irem (pc := 83) dL_act_83 (by decide) ?_
        refine J_iadd (pc := 84) dL_act_84 ?_
        obtain ⟨v17, M18, hc19, h⟩ := obind2_e h
        refine J_callS (g := mi_L_call) (pc := 85) [.ref 0, .int (0 : Int32), .int v14, .int ((v1 / (20 : Int32)) - (v1 / (20 : Int32)) / (4 : Int32) * (4 : Int32)), .int ((2 : Int32) + ((v1 / (10 : Int32)) - (v1 / (10 : Int32)) / (2 : Int32) * (2 : Int32)))] [] ms_L_call w_431 (k_L_call  (0 : Int32) v14 ((v1 / (20 : Int32)) - (v1 / (20 : Int32)) / (4 : Int32) * (4 : Int32)) ((2 : Int32) + ((v1 / (10 : Int32)) - (v1 / (10 : Int32)) / (2 : Int32) * (2 : Int32))) _ hc19) rfl rfl ⟨⟨Nat.le_of_ble_eq_true rfl, Nat.le_of_ble_eq_true rfl⟩, Nat.le_of_ble_eq_true rfl, Nat.le_of_ble_eq_true rfl⟩ (Nat.le_of_ble_eq_true rfl) dL_act_85 (Jk_vk 2 12 rfl rfl fun hok20 => ?_)
        cases h
        refine J_wide (k' := 2) (n' := 12) (Nat.le_of_ble_eq_true rfl) (Nat.le_of_ble_eq_true rfl) ?_
        exact J_ireturn dL_act_88 rfl rfl rfl rfl rfl
      · refine J_if_ne (pc := 58) (tgt := 67) dL_act_58 (by decide) (fun c16 => ?_) (fun c16 => ?_)
        · refine J_iload_n (pc := 67) dL_act_67 rfl 2 rfl ?_
          refine J_bipush (v := (10 : Int32)) (pc := 68) dL_act_68 (by decide) ?_
          refine J_irem (pc := 70) dL_act_70 (by decide) ?_
          refine J_sub [2] rfl ?_
          refine J_topi (y := v14) (by rw [e15, if_neg c16]) ?_
          exact hJ
        · refine J_iload_n (pc := 61) dL_act_61 rfl 2 rfl ?_
          refine J_iconst (v := (5 : Int32)) (pc := 62) dL_act_62 (by decide) ?_
          refine J_irem (pc := 63) dL_act_63 (by decide) ?_
          refine J_goto (pc := 64) (tgt := 71) dL_act_64 (by decide) ?_
          refine J_sub [2] rfl ?_
          refine J_topi (y := v14) (by rw [e15, if_pos c16]) ?_
          exact hJ
    · replace h := ifn c72 h
      by_cases c73 : v3 = 2
      · replace h := ifp c73 h
        refine J_topi c73.symm ?_
        refine J_tableIn (pc := 9) (tgt := 52) dL_act_9 (by decide) (by decide) rfl (by decide) ?_
        refine J_aload_n (pc := 52) dL_act_52 rfl 0 rfl ?_
        refine J_iconst (v := (0 : Int32)) (pc := 53) dL_act_53 (by decide) ?_
        refine J_aload_n (pc := 54) dL_act_54 rfl 0 rfl ?_
        refine J_callV (g := mi_X3_cars) (ci := 3) (pc := 55) [] [.int (0 : Int32), .ref 0] mv_X3_cars w_427 (k_X3_cars  _) rfl (by decide) rfl rfl rfl ⟨⟨Nat.le_of_ble_eq_true rfl, Nat.le_of_ble_eq_true rfl⟩, Nat.le_of_ble_eq_true rfl, Nat.le_of_ble_eq_true rfl⟩ (Nat.le_of_ble_eq_true rfl) dL_act_55 (Jk_v rfl rfl fun hok21 => ?_)
        obtain ⟨v22, e23, h⟩ := bnd_e h
        refine J_join [(2, .int v1)] M 71 [.int v22, .int (0 : Int32), .ref 0] ?_ (fun hJ => ?_)
        · refine J_iload_n (pc := 71) dL_act_71 rfl 0 rfl ?_
          refine J_bipush (v := (20 : Int32)) (pc := 72) dL_act_72 (by decide) ?_
          refine J_idiv (pc := 74) dL_act_74 (by decide) ?_
          refine J_iconst (v := (4 : Int32)) (pc := 75) dL_act_75 (by decide) ?_
          refine J_irem (pc := 76) dL_act_76 (by decide) ?_
          refine J_iconst (v := (2 : Int32)) (pc := 77) dL_act_77 (by decide) ?_
          refine J_iload_n (pc := 78) dL_act_78 rfl 0 rfl ?_
          refine J_bipush (v := (10 : Int32)) (pc := 79) dL_act_79 (by decide) ?_
          refine J_idiv (pc := 81) dL_act_81 (by decide) ?_
          refine J_iconst (v := (2 : Int32)) (pc := 82) dL_act_82 (by decide) ?_
          refine J_irem (pc := 83) dL_act_83 (by decide) ?_
          refine J_iadd (pc := 84) dL_act_84 ?_
          obtain ⟨v25, M26, hc27, h⟩ := obind2_e h
          refine J_callS (g := mi_L_call) (pc := 85) [.ref 0, .int (0 : Int32), .int v22, .int ((v1 / (20 : Int32)) - (v1 / (20 : Int32)) / (4 : Int32) * (4 : Int32)), .int ((2 : Int32) + ((v1 / (10 : Int32)) - (v1 / (10 : Int32)) / (2 : Int32) * (2 : Int32)))] [] ms_L_call w_431 (k_L_call  (0 : Int32) v22 ((v1 / (20 : Int32)) - (v1 / (20 : Int32)) / (4 : Int32) * (4 : Int32)) ((2 : Int32) + ((v1 / (10 : Int32)) - (v1 / (10 : Int32)) / (2 : Int32) * (2 : Int32))) _ hc27) rfl rfl ⟨⟨Nat.le_of_ble_eq_true rfl, Nat.le_of_ble_eq_true rfl⟩, Nat.le_of_ble_eq_true rfl, Nat.le_of_ble_eq_true rfl⟩ (Nat.le_of_ble_eq_true rfl) dL_act_85 (Jk_vk 2 12 rfl rfl fun hok28 => ?_)
          cases h
          refine J_wide (k' := 2) (n' := 12) (Nat.le_of_ble_eq_true rfl) (Nat.le_of_ble_eq_true rfl) ?_
          exact J_ireturn dL_act_88 rfl rfl rfl rfl rfl
        · refine J_if_ne (pc := 58) (tgt := 67) dL_act_58 (by decide) (fun c24 => ?_) (fun c24 => ?_)
          · refine J_iload_n (pc := 67) dL_act_67 rfl 2 rfl ?_
            refine J_bipush (v := (10 : Int32)) (pc := 68) dL_act_68 (by decide) ?_
            refine J_irem (pc := 70) dL_act_70 (by decide) ?_
            refine J_sub [2] rfl ?_
            refine J_topi (y := v22) (by rw [e23, if_neg c24]) ?_
            exact hJ
          · refine J_iload_n (pc := 61) dL_act_61 rfl 2 rfl ?_
            refine J_iconst (v := (5 : Int32)) (pc := 62) dL_act_62 (by decide) ?_
            refine J_irem (pc := 63) dL_act_63 (by decide) ?_
            refine J_goto (pc := 64) (tgt := 71) dL_act_64 (by decide) ?_
            refine J_sub [2] rfl ?_
            refine J_topi (y := v22) (by rw [e23, if_pos c24]) ?_
            exact hJ
      · replace h := ifn c73 h
        by_cases c74 : v3 = 3
        · replace h := ifp c74 h
          refine J_topi c74.symm ?_
          refine J_tableIn (pc := 9) (tgt := 89) dL_act_9 (by decide) (by decide) rfl (by decide) ?_
          refine J_iload_n (pc := 89) dL_act_89 rfl 2 rfl ?_
          refine J_iconst (v := (3 : Int32)) (pc := 90) dL_act_90 (by decide) ?_
          refine J_irem (pc := 91) dL_act_91 (by decide) ?_
          refine J_if_ne (pc := 92) (tgt := 106) dL_act_92 (by decide) (fun c29 => ?_) (fun c29 => ?_)
          · replace h := ifn c29 h
            refine J_aload_n (pc := 106) dL_act_106 rfl 0 rfl ?_
            refine J_iload_n (pc := 107) dL_act_107 rfl 2 rfl ?_
            refine J_bipush (v := (25 : Int32)) (pc := 108) dL_act_108 (by decide) ?_
            refine J_irem (pc := 110) dL_act_110 (by decide) ?_
            obtain ⟨v30, M31, hc32, h⟩ := obind2_e h
            refine J_callSX (g := mi_L_wall) (pc := 111) [.ref 0, .int (v1 - v1 / (25 : Int32) * (25 : Int32))] [] ms_L_wall w_864 (k_L_wall  (v1 - v1 / (25 : Int32) * (25 : Int32)) _ hc32) rfl rfl ⟨⟨Nat.le_of_ble_eq_true rfl, Nat.le_of_ble_eq_true rfl⟩, Nat.le_of_ble_eq_true rfl, Nat.le_of_ble_eq_true rfl⟩ (Nat.le_of_ble_eq_true rfl) dL_act_111 (Jk_vk 1 6 rfl rfl fun hok33 => ?_)
            cases h
            refine J_wide (k' := 2) (n' := 12) (Nat.le_of_ble_eq_true rfl) (Nat.le_of_ble_eq_true rfl) ?_
            exact J_ireturn dL_act_114 rfl rfl rfl rfl rfl
          · replace h := ifp c29 h
            refine J_aload_n (pc := 95) dL_act_95 rfl 0 rfl ?_
            refine J_iconst (v := (1 : Int32)) (pc := 96) dL_act_96 (by decide) ?_
            refine J_iconst (v := (0 : Int32)) (pc := 97) dL_act_97 (by decide) ?_
            refine J_iconst (v := (0 : Int32)) (pc := 98) dL_act_98 (by decide) ?_
            refine J_iconst (v := (0 : Int32)) (pc := 99) dL_act_99 (by decide) ?_
            obtain ⟨v34, M35, hc36, h⟩ := obind2_e h
            refine J_callS (g := mi_L_call) (pc := 100) [.ref 0, .int (1 : Int32), .int (0 : Int32), .int (0 : Int32), .int (0 : Int32)] [] ms_L_call w_431 (k_L_call  (1 : Int32) (0 : Int32) (0 : Int32) (0 : Int32) _ hc36) rfl rfl ⟨⟨Nat.le_of_ble_eq_true rfl, Nat.le_of_ble_eq_true rfl⟩, Nat.le_of_ble_eq_true rfl, Nat.le_of_ble_eq_true rfl⟩ (Nat.le_of_ble_eq_true rfl) dL_act_100 (Jk_vk 2 12 rfl rfl fun hok37 => ?_)
            refine J_goto (pc := 103) (tgt := 114) dL_act_103 (by decide) ?_
            cases h
            refine J_wide (k' := 2) (n' := 12) (Nat.le_of_ble_eq_true rfl) (Nat.le_of_ble_eq_true rfl) ?_
            exact J_ireturn dL_act_114 rfl rfl rfl rfl rfl
        · replace h := ifn c74 h
          by_cases c75 : v3 = 4
          · replace h := ifp c75 h
            refine J_topi c75.symm ?_
            refine J_tableIn (pc := 9) (tgt := 115) dL_act_9 (by decide) (by decide) rfl (by decide) ?_
            refine J_iload_n (pc := 115) dL_act_115 rfl 2 rfl ?_
            refine J_iconst (v := (2 : Int32)) (pc := 116) dL_act_116 (by decide) ?_
            refine J_irem (pc := 117) dL_act_117 (by decide) ?_
            refine J_if_ne (pc := 118) (tgt := 132) dL_act_118 (by decide) (fun c38 => ?_) (fun c38 => ?_)
            · replace h := ifn c38 h
              refine J_aload_n (pc := 132) dL_act_132 rfl 0 rfl ?_
              obtain ⟨v39, M40, hc41, h⟩ := obind2_e h
              refine J_callV (g := mi_X3_rewind) (ci := 3) (pc := 133) [] [] mv_X3_rewind w_946 (k_X3_rewind  _ hc41) rfl (by decide) rfl rfl rfl ⟨⟨Nat.le_of_ble_eq_true rfl, Nat.le_of_ble_eq_true rfl⟩, Nat.le_of_ble_eq_true rfl, Nat.le_of_ble_eq_true rfl⟩ (Nat.le_of_ble_eq_true rfl) dL_act_133 (Jk_v rfl rfl fun hok42 => ?_)
              cases h
              refine J_wide (k' := 2) (n' := 12) (Nat.le_of_ble_eq_true rfl) (Nat.le_of_ble_eq_true rfl) ?_
              exact J_ireturn dL_act_136 rfl rfl rfl rfl rfl
            · replace h := ifp c38 h
              refine J_aload_n (pc := 121) dL_act_121 rfl 0 rfl ?_
              refine J_iconst (v := (3 : Int32)) (pc := 122) dL_act_122 (by decide) ?_
              refine J_iconst (v := (0 : Int32)) (pc := 123) dL_act_123 (by decide) ?_
              refine J_iconst (v := (0 : Int32)) (pc := 124) dL_act_124 (by decide) ?_
              refine J_iconst (v := (0 : Int32)) (pc := 125) dL_act_125 (by decide) ?_
              obtain ⟨v43, M44, hc45, h⟩ := obind2_e h
              refine J_callS (g := mi_L_call) (pc := 126) [.ref 0, .int (3 : Int32), .int (0 : Int32), .int (0 : Int32), .int (0 : Int32)] [] ms_L_call w_431 (k_L_call  (3 : Int32) (0 : Int32) (0 : Int32) (0 : Int32) _ hc45) rfl rfl ⟨⟨Nat.le_of_ble_eq_true rfl, Nat.le_of_ble_eq_true rfl⟩, Nat.le_of_ble_eq_true rfl, Nat.le_of_ble_eq_true rfl⟩ (Nat.le_of_ble_eq_true rfl) dL_act_126 (Jk_vk 2 12 rfl rfl fun hok46 => ?_)
              refine J_goto (pc := 129) (tgt := 136) dL_act_129 (by decide) ?_
              cases h
              refine J_wide (k' := 2) (n' := 12) (Nat.le_of_ble_eq_true rfl) (Nat.le_of_ble_eq_true rfl) ?_
              exact J_ireturn dL_act_136 rfl rfl rfl rfl rfl
          · replace h := ifn c75 h
            by_cases c76 : v3 = 5
            · replace h := ifp c76 h
              refine J_topi c76.symm ?_
              refine J_tableIn (pc := 9) (tgt := 137) dL_act_9 (by decide) (by decide) rfl (by decide) ?_
              refine J_aload_n (pc := 137) dL_act_137 rfl 0 rfl ?_
              refine J_bipush (v := (8 : Int32)) (pc := 138) dL_act_138 (by decide) ?_
              refine J_iconst (v := (0 : Int32)) (pc := 140) dL_act_140 (by decide) ?_
              refine J_iconst (v := (0 : Int32)) (pc := 141) dL_act_141 (by decide) ?_
              refine J_iconst (v := (0 : Int32)) (pc := 142) dL_act_142 (by decide) ?_
              obtain ⟨v47, M48, hc49, h⟩ := obind2_e h
              refine J_callS (g := mi_L_call) (pc := 143) [.ref 0, .int (8 : Int32), .int (0 : Int32), .int (0 : Int32), .int (0 : Int32)] [] ms_L_call w_431 (k_L_call  (8 : Int32) (0 : Int32) (0 : Int32) (0 : Int32) _ hc49) rfl rfl ⟨⟨Nat.le_of_ble_eq_true rfl, Nat.le_of_ble_eq_true rfl⟩, Nat.le_of_ble_eq_true rfl, Nat.le_of_ble_eq_true rfl⟩ (Nat.le_of_ble_eq_true rfl) dL_act_143 (Jk_vk 2 12 rfl rfl fun hok50 => ?_)
              cases h
              refine J_wide (k' := 2) (n' := 12) (Nat.le_of_ble_eq_true rfl) (Nat.le_of_ble_eq_true rfl) ?_
              exact J_ireturn dL_act_146 rfl rfl rfl rfl rfl
            · replace h := ifn c76 h
              by_cases c77 : v3 = 6
              · replace h := ifp c77 h
                refine J_topi c77.symm ?_
                refine J_tableIn (pc := 9) (tgt := 147) dL_act_9 (by decide) (by decide) rfl (by decide) ?_
                refine J_iload_n (pc := 147) dL_act_147 rfl 2 rfl ?_
                refine J_iconst (v := (2 : Int32)) (pc := 148) dL_act_148 (by decide) ?_
                refine J_irem (pc := 149) dL_act_149 (by decide) ?_
                refine J_if_ne (pc := 150) (tgt := 160) dL_act_150 (by decide) (fun c51 => ?_) (fun c51 => ?_)
                · replace h := ifn c51 h
                  refine J_aload_n (pc := 160) dL_act_160 rfl 0 rfl ?_
                  refine J_bipush (v := (9 : Int32)) (pc := 161) dL_act_161 (by decide) ?_
                  refine J_iconst (v := (0 : Int32)) (pc := 163) dL_act_163 (by decide) ?_
                  refine J_iconst (v := (0 : Int32)) (pc := 164) dL_act_164 (by decide) ?_
                  refine J_iconst (v := (0 : Int32)) (pc := 165) dL_act_165 (by decide) ?_
                  obtain ⟨v52, M53, hc54, h⟩ := obind2_e h
                  refine J_callS (g := mi_L_call) (pc := 166) [.ref 0, .int (9 : Int32), .int (0 : Int32), .int (0 : Int32), .int (0 : Int32)] [] ms_L_call w_431 (k_L_call  (9 : Int32) (0 : Int32) (0 : Int32) (0 : Int32) _ hc54) rfl rfl ⟨⟨Nat.le_of_ble_eq_true rfl, Nat.le_of_ble_eq_true rfl⟩, Nat.le_of_ble_eq_true rfl, Nat.le_of_ble_eq_true rfl⟩ (Nat.le_of_ble_eq_true rfl) dL_act_166 (Jk_vk 2 12 rfl rfl fun hok55 => ?_)
                  cases h
                  refine J_wide (k' := 2) (n' := 12) (Nat.le_of_ble_eq_true rfl) (Nat.le_of_ble_eq_true rfl) ?_
                  exact J_ireturn dL_act_169 rfl rfl rfl rfl rfl
                · replace h := ifp c51 h
                  refine J_aload_n (pc := 153) dL_act_153 rfl 0 rfl ?_
                  obtain ⟨v56, M57, hc58, h⟩ := obind2_e h
                  refine J_callV (g := mi_X3_keep) (ci := 3) (pc := 154) [] [] mv_X3_keep w_950 (k_X3_keep  _ hc58) rfl (by decide) rfl rfl rfl ⟨⟨Nat.le_of_ble_eq_true rfl, Nat.le_of_ble_eq_true rfl⟩, Nat.le_of_ble_eq_true rfl, Nat.le_of_ble_eq_true rfl⟩ (Nat.le_of_ble_eq_true rfl) dL_act_154 (Jk_v rfl rfl fun hok59 => ?_)
                  refine J_goto (pc := 157) (tgt := 169) dL_act_157 (by decide) ?_
                  cases h
                  refine J_wide (k' := 2) (n' := 12) (Nat.le_of_ble_eq_true rfl) (Nat.le_of_ble_eq_true rfl) ?_
                  exact J_ireturn dL_act_169 rfl rfl rfl rfl rfl
              · replace h := ifn c77 h
                refine J_tableOut (pc := 9) (tgt := 170) dL_act_9 (tsw_L_act_9 v3 c71 c72 c73 c74 c75 c76 c77) (by decide) ?_
                refine J_aload_n (pc := 170) dL_act_170 rfl 0 rfl ?_
                refine J_callV (g := mi_X3_cars) (ci := 3) (pc := 171) [] [] mv_X3_cars w_427 (k_X3_cars  _) rfl (by decide) rfl rfl rfl ⟨⟨Nat.le_of_ble_eq_true rfl, Nat.le_of_ble_eq_true rfl⟩, Nat.le_of_ble_eq_true rfl, Nat.le_of_ble_eq_true rfl⟩ (Nat.le_of_ble_eq_true rfl) dL_act_171 (Jk_v rfl rfl fun hok60 => ?_)
                refine J_if_ne (pc := 174) (tgt := 181) dL_act_174 (by decide) (fun c61 => ?_) (fun c61 => ?_)
                · replace h := ifn c61 h
                  refine J_aload_n (pc := 181) dL_act_181 rfl 0 rfl ?_
                  refine J_iconst (v := (2 : Int32)) (pc := 182) dL_act_182 (by decide) ?_
                  refine J_iload_n (pc := 183) dL_act_183 rfl 2 rfl ?_
                  refine J_aload_n (pc := 184) dL_act_184 rfl 0 rfl ?_
                  refine J_callV (g := mi_X3_cars) (ci := 3) (pc := 185) [] [.int v1, .int (2 : Int32), .ref 0] mv_X3_cars w_427 (k_X3_cars  _) rfl (by decide) rfl rfl rfl ⟨⟨Nat.le_of_ble_eq_true rfl, Nat.le_of_ble_eq_true rfl⟩, Nat.le_of_ble_eq_true rfl, Nat.le_of_ble_eq_true rfl⟩ (Nat.le_of_ble_eq_true rfl) dL_act_185 (Jk_v rfl rfl fun hok62 => ?_)
                  obtain ⟨hn63, h⟩ := grd_e h
                  refine J_irem (pc := 188) dL_act_188 hn63 ?_
                  refine J_iload_n (pc := 189) dL_act_189 rfl 2 rfl ?_
                  refine J_bipush (v := (8 : Int32)) (pc := 190) dL_act_190 (by decide) ?_
                  refine J_idiv (pc := 192) dL_act_192 (by decide) ?_
                  refine J_iconst (v := (2 : Int32)) (pc := 193) dL_act_193 (by decide) ?_
                  refine J_irem (pc := 194) dL_act_194 (by decide) ?_
                  obtain ⟨v64, e65, h⟩ := bnd_e h
                  refine J_join [] M 217 [.int v64, .int (v1 - v1 / (F_X3_cars M) * (F_X3_cars M)), .int (2 : Int32), .ref 0] ?_ (fun hJ => ?_)
                  · refine J_iconst (v := (0 : Int32)) (pc := 217) dL_act_217 (by decide) ?_
                    obtain ⟨v67, M68, hc69, h⟩ := obind2_e h
                    refine J_callS (g := mi_L_call) (pc := 218) [.ref 0, .int (2 : Int32), .int (v1 - v1 / (F_X3_cars M) * (F_X3_cars M)), .int v64, .int (0 : Int32)] [] ms_L_call w_431 (k_L_call  (2 : Int32) (v1 - v1 / (F_X3_cars M) * (F_X3_cars M)) v64 (0 : Int32) _ hc69) rfl rfl ⟨⟨Nat.le_of_ble_eq_true rfl, Nat.le_of_ble_eq_true rfl⟩, Nat.le_of_ble_eq_true rfl, Nat.le_of_ble_eq_true rfl⟩ (Nat.le_of_ble_eq_true rfl) dL_act_218 (Jk_vk 2 12 rfl rfl fun hok70 => ?_)
                    cases h
                    refine J_wide (k' := 2) (n' := 12) (Nat.le_of_ble_eq_true rfl) (Nat.le_of_ble_eq_true rfl) ?_
                    exact J_ireturn dL_act_221 rfl rfl rfl rfl rfl
                  · refine J_if_ne (pc := 195) (tgt := 209) dL_act_195 (by decide) (fun c66 => ?_) (fun c66 => ?_)
                    · refine J_iconst (v := (-1 : Int32)) (pc := 209) dL_act_209 (by decide) ?_
                      refine J_iload_n (pc := 210) dL_act_210 rfl 2 rfl ?_
                      refine J_bipush (v := (16 : Int32)) (pc := 211) dL_act_211 (by decide) ?_
                      refine J_idiv (pc := 213) dL_act_213 (by decide) ?_
                      refine J_iconst (v := (3 : Int32)) (pc := 214) dL_act_214 (by decide) ?_
                      refine J_irem (pc := 215) dL_act_215 (by decide) ?_
                      refine J_isub (pc := 216) dL_act_216 ?_
                      refine J_sub [] rfl ?_
                      refine J_topi (y := v64) (by rw [e65, if_neg c66]) ?_
                      exact hJ
                    · refine J_iconst (v := (1 : Int32)) (pc := 198) dL_act_198 (by decide) ?_
                      refine J_iload_n (pc := 199) dL_act_199 rfl 2 rfl ?_
                      refine J_bipush (v := (16 : Int32)) (pc := 200) dL_act_200 (by decide) ?_
                      refine J_idiv (pc := 202) dL_act_202 (by decide) ?_
                      refine J_iconst (v := (3 : Int32)) (pc := 203) dL_act_203 (by decide) ?_
                      refine J_irem (pc := 204) dL_act_204 (by decide) ?_
                      refine J_iadd (pc := 205) dL_act_205 ?_
                      refine J_goto (pc := 206) (tgt := 217) dL_act_206 (by decide) ?_
                      refine J_sub [] rfl ?_
                      refine J_topi (y := v64) (by rw [e65, if_pos c66]) ?_
                      exact hJ
                · replace h := ifp c61 h
                  refine J_iconst (v := (-1 : Int32)) (pc := 177) dL_act_177 (by decide) ?_
                  refine J_goto (pc := 178) (tgt := 221) dL_act_178 (by decide) ?_
                  cases h
                  refine J_wide (k' := 2) (n' := 12) (Nat.le_of_ble_eq_true rfl) (Nat.le_of_ble_eq_true rfl) ?_
                  exact J_ireturn dL_act_221 rfl rfl rfl rfl rfl

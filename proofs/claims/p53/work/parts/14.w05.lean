/-! ===== walks of the methods, 5 ===== -/
set_option maxHeartbeats 4000000 in
set_option maxRecDepth 100000 in
theorem kL_X2_nextPart_L2 {κ : Kx} {E : En} {Q : State → Prop} {ρ : Type} {r : ρ} (M : Wd) (K26 : Int32 → Option ρ) (hK26 : ∀ (x2 : Int32), K26 x2 = some r → J κ E mi_X2_nextPart Q 0 0 [(2, .int x2)] M 26 []) : ∀ (m : Nat) (x2 : Int32), F_X2_nextPart_L2 M K26 m x2 = some r → J κ E mi_X2_nextPart Q 0 0 [(0, .ref 51), (2, .int x2)] M 2 [] := by
  intro m
  induction m with
  | zero => intro x2 h; exact (nomatch (show (none : Option ρ) = some r from h))
  | succ m ih =>
    intro x2 h
    unfold F_X2_nextPart_L2 at h
    refine J_iload_n (pc := 2) dX2_nextPart_2 rfl 1 rfl ?_
    refine J_aload_n (pc := 3) dX2_nextPart_3 rfl 0 rfl ?_
    refine get_51_1 (pc := 4) w_147 dX2_nextPart_4 ?_
    refine J_icmp_ge (pc := 7) (tgt := 26) dX2_nextPart_7 (by decide) (fun c1 => ?_) (fun c1 => ?_)
    · replace h := ifp c1 h
      refine J_sub [1] rfl ?_
      exact hK26 _ h
    · replace h := ifn c1 h
      refine J_aload_n (pc := 10) dX2_nextPart_10 rfl 0 rfl ?_
      refine J_iload_n (pc := 11) dX2_nextPart_11 rfl 1 rfl ?_
      obtain ⟨v2, hc3, h⟩ := obind_e h
      refine J_callV (g := mi_X2_codeAt) (ci := 2) (pc := 12) [.int x2] [] mv_X2_codeAt w_671 (k_X2_codeAt  x2 _ hc3) rfl (by decide) rfl rfl rfl ⟨⟨Nat.le_of_ble_eq_true rfl, Nat.le_of_ble_eq_true rfl⟩, Nat.le_of_ble_eq_true rfl, Nat.le_of_ble_eq_true rfl⟩ (Nat.le_of_ble_eq_true rfl) dX2_nextPart_12 (Jk_v rfl rfl fun hok4 => ?_)
      refine J_bipush (v := (59 : Int32)) (pc := 15) dX2_nextPart_15 (by decide) ?_
      refine J_icmp_eq (pc := 17) (tgt := 26) dX2_nextPart_17 (by decide) (fun c5 => ?_) (fun c5 => ?_)
      · replace h := ifp c5 h
        refine J_sub [1] rfl ?_
        exact hK26 _ h
      · replace h := ifn c5 h
        obtain ⟨v6, e7, h⟩ := bnd_e h
        refine J_iinc (v := v6) (pc := 20) dX2_nextPart_20 1 rfl (by rw [e7]; rfl) (Nat.le_of_ble_eq_true rfl) [1, 0] rfl ?_
        refine J_goto (pc := 23) (tgt := 2) dX2_nextPart_23 (by decide) ?_
        exact ih _ h
set_option maxHeartbeats 4000000 in
set_option maxRecDepth 100000 in
theorem k_X2_nextPart {E : En} (a1 : Int32) (M : Wd) {r : Int32} (h : F_X2_nextPart a1 M = some r) : Con E mi_X2_nextPart [.ref 51, .int a1] M (.inl (some (.int r))) M := by
  unfold F_X2_nextPart at h
  refine Con.of (by decide) rfl (Nat.le_of_ble_eq_true rfl) (fun κ => ?_)
  show J κ E mi_X2_nextPart _ 0 0 [(0, .ref 51), (1, .int a1)] M 0 []
  refine J_iload_n (pc := 0) dX2_nextPart_0 rfl 1 rfl ?_
  refine J_istore_n (pc := 1) dX2_nextPart_1 rfl (Nat.le_of_ble_eq_true rfl) [1, 2, 0] rfl ?_
  refine J_sub [0, 2] rfl ?_
  refine kL_X2_nextPart_L2 _ _ (fun v8 h => ?_) fuelN _ h
  refine J_iload_n (pc := 26) dX2_nextPart_26 rfl 0 rfl ?_
  refine J_iconst (v := (1 : Int32)) (pc := 27) dX2_nextPart_27 (by decide) ?_
  refine J_iadd (pc := 28) dX2_nextPart_28 ?_
  cases h
  exact J_ireturn dX2_nextPart_29 rfl rfl rfl rfl rfl
set_option maxHeartbeats 4000000 in
set_option maxRecDepth 100000 in
theorem k_X2_behindBegin {E : En} (a0 : Int32) (M : Wd) : Con E mi_X2_behindBegin [.int a0] M (.inl (some (.int (F_X2_behindBegin a0)))) M := by
  obtain ⟨r, h⟩ : ∃ r, F_X2_behindBegin a0 = r := ⟨_, rfl⟩
  rw [h]
  unfold F_X2_behindBegin at h
  refine Con.of (by decide) rfl (Nat.le_of_ble_eq_true rfl) (fun κ => ?_)
  show J κ E mi_X2_behindBegin _ 0 0 [(0, .int a0)] M 0 []
  refine J_iload_n (pc := 0) dX2_behindBegin_0 rfl 0 rfl ?_
  refine J_bipush (v := (104 : Int32)) (pc := 1) dX2_behindBegin_1 (by decide) ?_
  refine J_icmp_eq (pc := 3) (tgt := 12) dX2_behindBegin_3 (by decide) (fun c1 => ?_) (fun c1 => ?_)
  · replace h := ifp c1 h
    refine J_iconst (v := (1 : Int32)) (pc := 12) dX2_behindBegin_12 (by decide) ?_
    subst h
    exact J_ireturn dX2_behindBegin_13 rfl rfl rfl rfl rfl
  · replace h := ifn c1 h
    refine J_iload_n (pc := 6) dX2_behindBegin_6 rfl 0 rfl ?_
    refine J_bipush (v := (118 : Int32)) (pc := 7) dX2_behindBegin_7 (by decide) ?_
    refine J_icmp_ne (pc := 9) (tgt := 14) dX2_behindBegin_9 (by decide) (fun c2 => ?_) (fun c2 => ?_)
    · replace h := ifn c2 h
      refine J_iload_n (pc := 14) dX2_behindBegin_14 rfl 0 rfl ?_
      refine J_bipush (v := (119 : Int32)) (pc := 15) dX2_behindBegin_15 (by decide) ?_
      refine J_icmp_ne (pc := 17) (tgt := 23) dX2_behindBegin_17 (by decide) (fun c3 => ?_) (fun c3 => ?_)
      · replace h := ifn c3 h
        refine J_iload_n (pc := 23) dX2_behindBegin_23 rfl 0 rfl ?_
        refine J_bipush (v := (98 : Int32)) (pc := 24) dX2_behindBegin_24 (by decide) ?_
        refine J_icmp_eq (pc := 26) (tgt := 35) dX2_behindBegin_26 (by decide) (fun c4 => ?_) (fun c4 => ?_)
        · replace h := ifp c4 h
          refine J_bipush (v := (11 : Int32)) (pc := 35) dX2_behindBegin_35 (by decide) ?_
          subst h
          exact J_ireturn dX2_behindBegin_37 rfl rfl rfl rfl rfl
        · replace h := ifn c4 h
          refine J_iload_n (pc := 29) dX2_behindBegin_29 rfl 0 rfl ?_
          refine J_bipush (v := (100 : Int32)) (pc := 30) dX2_behindBegin_30 (by decide) ?_
          refine J_icmp_ne (pc := 32) (tgt := 38) dX2_behindBegin_32 (by decide) (fun c5 => ?_) (fun c5 => ?_)
          · replace h := ifn c5 h
            refine J_iload_n (pc := 38) dX2_behindBegin_38 rfl 0 rfl ?_
            refine J_bipush (v := (48 : Int32)) (pc := 39) dX2_behindBegin_39 (by decide) ?_
            refine J_bipush (v := (53 : Int32)) (pc := 41) dX2_behindBegin_41 (by decide) ?_
            refine J_callS (g := mi_X2_isAmong) (pc := 43) [.int a0, .int (48 : Int32), .int (53 : Int32)] [] ms_X2_isAmong w_678 (k_X2_isAmong  a0 (48 : Int32) (53 : Int32) _) rfl rfl ⟨⟨Nat.le_of_ble_eq_true rfl, Nat.le_of_ble_eq_true rfl⟩, Nat.le_of_ble_eq_true rfl, Nat.le_of_ble_eq_true rfl⟩ (Nat.le_of_ble_eq_true rfl) dX2_behindBegin_43 (Jk_v rfl rfl fun hok6 => ?_)
            refine J_if_eq (pc := 46) (tgt := 54) dX2_behindBegin_46 (by decide) (fun c7 => ?_) (fun c7 => ?_)
            · replace h := ifp c7 h
              refine J_bipush (v := (12 : Int32)) (pc := 54) dX2_behindBegin_54 (by decide) ?_
              subst h
              exact J_ireturn dX2_behindBegin_56 rfl rfl rfl rfl rfl
            · replace h := ifn c7 h
              refine J_bipush (v := (6 : Int32)) (pc := 49) dX2_behindBegin_49 (by decide) ?_
              refine J_goto (pc := 51) (tgt := 56) dX2_behindBegin_51 (by decide) ?_
              subst h
              exact J_ireturn dX2_behindBegin_56 rfl rfl rfl rfl rfl
          · replace h := ifp c5 h
            refine J_bipush (v := (11 : Int32)) (pc := 35) dX2_behindBegin_35 (by decide) ?_
            subst h
            exact J_ireturn dX2_behindBegin_37 rfl rfl rfl rfl rfl
      · replace h := ifp c3 h
        refine J_bipush (v := (8 : Int32)) (pc := 20) dX2_behindBegin_20 (by decide) ?_
        subst h
        exact J_ireturn dX2_behindBegin_22 rfl rfl rfl rfl rfl
    · replace h := ifp c2 h
      refine J_iconst (v := (1 : Int32)) (pc := 12) dX2_behindBegin_12 (by decide) ?_
      subst h
      exact J_ireturn dX2_behindBegin_13 rfl rfl rfl rfl rfl
set_option maxHeartbeats 4000000 in
set_option maxRecDepth 100000 in
theorem k_X2_behindEnd {E : En} (a0 : Int32) (M : Wd) : Con E mi_X2_behindEnd [.int a0] M (.inl (some (.int (F_X2_behindEnd a0)))) M := by
  obtain ⟨r, h⟩ : ∃ r, F_X2_behindEnd a0 = r := ⟨_, rfl⟩
  rw [h]
  unfold F_X2_behindEnd at h
  refine Con.of (by decide) rfl (Nat.le_of_ble_eq_true rfl) (fun κ => ?_)
  show J κ E mi_X2_behindEnd _ 0 0 [(0, .int a0)] M 0 []
  refine J_iload_n (pc := 0) dX2_behindEnd_0 rfl 0 rfl ?_
  refine J_bipush (v := (59 : Int32)) (pc := 1) dX2_behindEnd_1 (by decide) ?_
  refine J_icmp_ne (pc := 3) (tgt := 10) dX2_behindEnd_3 (by decide) (fun c1 => ?_) (fun c1 => ?_)
  · replace h := ifn c1 h
    refine J_bipush (v := (12 : Int32)) (pc := 10) dX2_behindEnd_10 (by decide) ?_
    subst h
    exact J_ireturn dX2_behindEnd_12 rfl rfl rfl rfl rfl
  · replace h := ifp c1 h
    refine J_iconst (v := (0 : Int32)) (pc := 6) dX2_behindEnd_6 (by decide) ?_
    refine J_goto (pc := 7) (tgt := 12) dX2_behindEnd_7 (by decide) ?_
    subst h
    exact J_ireturn dX2_behindEnd_12 rfl rfl rfl rfl rfl
set_option maxHeartbeats 4000000 in
set_option maxRecDepth 100000 in
theorem k_X2_behindWall {E : En} (a0 : Int32) (M : Wd) : Con E mi_X2_behindWall [.int a0] M (.inl (some (.int (F_X2_behindWall a0)))) M := by
  obtain ⟨r, h⟩ : ∃ r, F_X2_behindWall a0 = r := ⟨_, rfl⟩
  rw [h]
  unfold F_X2_behindWall at h
  refine Con.of (by decide) rfl (Nat.le_of_ble_eq_true rfl) (fun κ => ?_)
  show J κ E mi_X2_behindWall _ 0 0 [(0, .int a0)] M 0 []
  refine J_iload_n (pc := 0) dX2_behindWall_0 rfl 0 rfl ?_
  refine J_bipush (v := (49 : Int32)) (pc := 1) dX2_behindWall_1 (by decide) ?_
  refine J_icmp_ne (pc := 3) (tgt := 9) dX2_behindWall_3 (by decide) (fun c1 => ?_) (fun c1 => ?_)
  · replace h := ifn c1 h
    refine J_iload_n (pc := 9) dX2_behindWall_9 rfl 0 rfl ?_
    refine J_bipush (v := (50 : Int32)) (pc := 10) dX2_behindWall_10 (by decide) ?_
    refine J_icmp_ne (pc := 12) (tgt := 18) dX2_behindWall_12 (by decide) (fun c2 => ?_) (fun c2 => ?_)
    · replace h := ifn c2 h
      refine J_iload_n (pc := 18) dX2_behindWall_18 rfl 0 rfl ?_
      refine J_bipush (v := (48 : Int32)) (pc := 19) dX2_behindWall_19 (by decide) ?_
      refine J_bipush (v := (57 : Int32)) (pc := 21) dX2_behindWall_21 (by decide) ?_
      refine J_callS (g := mi_X2_isAmong) (pc := 23) [.int a0, .int (48 : Int32), .int (57 : Int32)] [] ms_X2_isAmong w_678 (k_X2_isAmong  a0 (48 : Int32) (57 : Int32) _) rfl rfl ⟨⟨Nat.le_of_ble_eq_true rfl, Nat.le_of_ble_eq_true rfl⟩, Nat.le_of_ble_eq_true rfl, Nat.le_of_ble_eq_true rfl⟩ (Nat.le_of_ble_eq_true rfl) dX2_behindWall_23 (Jk_v rfl rfl fun hok3 => ?_)
      refine J_if_eq (pc := 26) (tgt := 34) dX2_behindWall_26 (by decide) (fun c4 => ?_) (fun c4 => ?_)
      · replace h := ifp c4 h
        refine J_bipush (v := (12 : Int32)) (pc := 34) dX2_behindWall_34 (by decide) ?_
        subst h
        exact J_ireturn dX2_behindWall_36 rfl rfl rfl rfl rfl
      · replace h := ifn c4 h
        refine J_bipush (v := (11 : Int32)) (pc := 29) dX2_behindWall_29 (by decide) ?_
        refine J_goto (pc := 31) (tgt := 36) dX2_behindWall_31 (by decide) ?_
        subst h
        exact J_ireturn dX2_behindWall_36 rfl rfl rfl rfl rfl
    · replace h := ifp c2 h
      refine J_bipush (v := (10 : Int32)) (pc := 15) dX2_behindWall_15 (by decide) ?_
      subst h
      exact J_ireturn dX2_behindWall_17 rfl rfl rfl rfl rfl
  · replace h := ifp c1 h
    refine J_bipush (v := (9 : Int32)) (pc := 6) dX2_behindWall_6 (by decide) ?_
    subst h
    exact J_ireturn dX2_behindWall_8 rfl rfl rfl rfl rfl
set_option maxHeartbeats 4000000 in
set_option maxRecDepth 100000 in
theorem k_X2_behind {E : En} (a0 : Int32) (a1 : Int32) (M : Wd) : Con E mi_X2_behind [.int a0, .int a1] M (.inl (some (.int (F_X2_behind a0 a1)))) M := by
  obtain ⟨r, h⟩ : ∃ r, F_X2_behind a0 a1 = r := ⟨_, rfl⟩
  rw [h]
  unfold F_X2_behind at h
  refine Con.of (by decide) rfl (Nat.le_of_ble_eq_true rfl) (fun κ => ?_)
  show J κ E mi_X2_behind _ 0 0 [(0, .int a0), (1, .int a1)] M 0 []
  refine J_iload_n (pc := 0) dX2_behind_0 rfl 0 rfl ?_
  by_cases c22 : a0 = 0
  · replace h := ifp c22 h
    refine J_topi c22.symm ?_
    refine J_tableIn (pc := 1) (tgt := 64) dX2_behind_1 (by decide) (by decide) rfl (by decide) ?_
    refine J_iload_n (pc := 64) dX2_behind_64 rfl 1 rfl ?_
    refine J_callS (g := mi_X2_behindBegin) (pc := 65) [.int a1] [] ms_X2_behindBegin w_675 (k_X2_behindBegin  a1 _) rfl rfl ⟨⟨Nat.le_of_ble_eq_true rfl, Nat.le_of_ble_eq_true rfl⟩, Nat.le_of_ble_eq_true rfl, Nat.le_of_ble_eq_true rfl⟩ (Nat.le_of_ble_eq_true rfl) dX2_behind_65 (Jk_v rfl rfl fun hok1 => ?_)
    subst h
    exact J_ireturn dX2_behind_68 rfl rfl rfl rfl rfl
  · replace h := ifn c22 h
    by_cases c23 : a0 = 1
    · replace h := ifp c23 h
      refine J_topi c23.symm ?_
      refine J_tableIn (pc := 1) (tgt := 69) dX2_behind_1 (by decide) (by decide) rfl (by decide) ?_
      refine J_iload_n (pc := 69) dX2_behind_69 rfl 1 rfl ?_
      refine J_bipush (v := (48 : Int32)) (pc := 70) dX2_behind_70 (by decide) ?_
      refine J_bipush (v := (52 : Int32)) (pc := 72) dX2_behind_72 (by decide) ?_
      refine J_callS (g := mi_X2_isAmong) (pc := 74) [.int a1, .int (48 : Int32), .int (52 : Int32)] [] ms_X2_isAmong w_678 (k_X2_isAmong  a1 (48 : Int32) (52 : Int32) _) rfl rfl ⟨⟨Nat.le_of_ble_eq_true rfl, Nat.le_of_ble_eq_true rfl⟩, Nat.le_of_ble_eq_true rfl, Nat.le_of_ble_eq_true rfl⟩ (Nat.le_of_ble_eq_true rfl) dX2_behind_74 (Jk_v rfl rfl fun hok2 => ?_)
      refine J_if_eq (pc := 77) (tgt := 84) dX2_behind_77 (by decide) (fun c3 => ?_) (fun c3 => ?_)
      · replace h := ifp c3 h
        refine J_bipush (v := (12 : Int32)) (pc := 84) dX2_behind_84 (by decide) ?_
        subst h
        exact J_ireturn dX2_behind_86 rfl rfl rfl rfl rfl
      · replace h := ifn c3 h
        refine J_iconst (v := (2 : Int32)) (pc := 80) dX2_behind_80 (by decide) ?_
        refine J_goto (pc := 81) (tgt := 86) dX2_behind_81 (by decide) ?_
        subst h
        exact J_ireturn dX2_behind_86 rfl rfl rfl rfl rfl
    · replace h := ifn c23 h
      by_cases c24 : a0 = 2
      · replace h := ifp c24 h
        refine J_topi c24.symm ?_
        refine J_tableIn (pc := 1) (tgt := 87) dX2_behind_1 (by decide) (by decide) rfl (by decide) ?_
        refine J_iload_n (pc := 87) dX2_behind_87 rfl 1 rfl ?_
        refine J_bipush (v := (46 : Int32)) (pc := 88) dX2_behind_88 (by decide) ?_
        refine J_icmp_ne (pc := 90) (tgt := 97) dX2_behind_90 (by decide) (fun c4 => ?_) (fun c4 => ?_)
        · replace h := ifn c4 h
          refine J_bipush (v := (12 : Int32)) (pc := 97) dX2_behind_97 (by decide) ?_
          subst h
          exact J_ireturn dX2_behind_99 rfl rfl rfl rfl rfl
        · replace h := ifp c4 h
          refine J_iconst (v := (3 : Int32)) (pc := 93) dX2_behind_93 (by decide) ?_
          refine J_goto (pc := 94) (tgt := 99) dX2_behind_94 (by decide) ?_
          subst h
          exact J_ireturn dX2_behind_99 rfl rfl rfl rfl rfl
      · replace h := ifn c24 h
        by_cases c25 : a0 = 3
        · replace h := ifp c25 h
          refine J_topi c25.symm ?_
          refine J_tableIn (pc := 1) (tgt := 100) dX2_behind_1 (by decide) (by decide) rfl (by decide) ?_
          refine J_iload_n (pc := 100) dX2_behind_100 rfl 1 rfl ?_
          refine J_bipush (v := (48 : Int32)) (pc := 101) dX2_behind_101 (by decide) ?_
          refine J_bipush (v := (51 : Int32)) (pc := 103) dX2_behind_103 (by decide) ?_
          refine J_callS (g := mi_X2_isAmong) (pc := 105) [.int a1, .int (48 : Int32), .int (51 : Int32)] [] ms_X2_isAmong w_678 (k_X2_isAmong  a1 (48 : Int32) (51 : Int32) _) rfl rfl ⟨⟨Nat.le_of_ble_eq_true rfl, Nat.le_of_ble_eq_true rfl⟩, Nat.le_of_ble_eq_true rfl, Nat.le_of_ble_eq_true rfl⟩ (Nat.le_of_ble_eq_true rfl) dX2_behind_105 (Jk_v rfl rfl fun hok5 => ?_)
          refine J_if_eq (pc := 108) (tgt := 115) dX2_behind_108 (by decide) (fun c6 => ?_) (fun c6 => ?_)
          · replace h := ifp c6 h
            refine J_bipush (v := (12 : Int32)) (pc := 115) dX2_behind_115 (by decide) ?_
            subst h
            exact J_ireturn dX2_behind_117 rfl rfl rfl rfl rfl
          · replace h := ifn c6 h
            refine J_iconst (v := (4 : Int32)) (pc := 111) dX2_behind_111 (by decide) ?_
            refine J_goto (pc := 112) (tgt := 117) dX2_behind_112 (by decide) ?_
            subst h
            exact J_ireturn dX2_behind_117 rfl rfl rfl rfl rfl
        · replace h := ifn c25 h
          by_cases c26 : a0 = 4
          · replace h := ifp c26 h
            refine J_topi c26.symm ?_
            refine J_tableIn (pc := 1) (tgt := 118) dX2_behind_1 (by decide) (by decide) rfl (by decide) ?_
            refine J_iload_n (pc := 118) dX2_behind_118 rfl 1 rfl ?_
            refine J_bipush (v := (42 : Int32)) (pc := 119) dX2_behind_119 (by decide) ?_
            refine J_icmp_ne (pc := 121) (tgt := 128) dX2_behind_121 (by decide) (fun c7 => ?_) (fun c7 => ?_)
            · replace h := ifn c7 h
              refine J_bipush (v := (12 : Int32)) (pc := 128) dX2_behind_128 (by decide) ?_
              subst h
              exact J_ireturn dX2_behind_130 rfl rfl rfl rfl rfl
            · replace h := ifp c7 h
              refine J_iconst (v := (5 : Int32)) (pc := 124) dX2_behind_124 (by decide) ?_
              refine J_goto (pc := 125) (tgt := 130) dX2_behind_125 (by decide) ?_
              subst h
              exact J_ireturn dX2_behind_130 rfl rfl rfl rfl rfl
          · replace h := ifn c26 h
            by_cases c27 : a0 = 5
            · replace h := ifp c27 h
              refine J_topi c27.symm ?_
              refine J_tableIn (pc := 1) (tgt := 131) dX2_behind_1 (by decide) (by decide) rfl (by decide) ?_
              refine J_iload_n (pc := 131) dX2_behind_131 rfl 1 rfl ?_
              refine J_bipush (v := (50 : Int32)) (pc := 132) dX2_behind_132 (by decide) ?_
              refine J_bipush (v := (51 : Int32)) (pc := 134) dX2_behind_134 (by decide) ?_
              refine J_callS (g := mi_X2_isAmong) (pc := 136) [.int a1, .int (50 : Int32), .int (51 : Int32)] [] ms_X2_isAmong w_678 (k_X2_isAmong  a1 (50 : Int32) (51 : Int32) _) rfl rfl ⟨⟨Nat.le_of_ble_eq_true rfl, Nat.le_of_ble_eq_true rfl⟩, Nat.le_of_ble_eq_true rfl, Nat.le_of_ble_eq_true rfl⟩ (Nat.le_of_ble_eq_true rfl) dX2_behind_136 (Jk_v rfl rfl fun hok8 => ?_)
              refine J_if_eq (pc := 139) (tgt := 147) dX2_behind_139 (by decide) (fun c9 => ?_) (fun c9 => ?_)
              · replace h := ifp c9 h
                refine J_bipush (v := (12 : Int32)) (pc := 147) dX2_behind_147 (by decide) ?_
                subst h
                exact J_ireturn dX2_behind_149 rfl rfl rfl rfl rfl
              · replace h := ifn c9 h
                refine J_bipush (v := (11 : Int32)) (pc := 142) dX2_behind_142 (by decide) ?_
                refine J_goto (pc := 144) (tgt := 149) dX2_behind_144 (by decide) ?_
                subst h
                exact J_ireturn dX2_behind_149 rfl rfl rfl rfl rfl
            · replace h := ifn c27 h
              by_cases c28 : a0 = 6
              · replace h := ifp c28 h
                refine J_topi c28.symm ?_
                refine J_tableIn (pc := 1) (tgt := 150) dX2_behind_1 (by decide) (by decide) rfl (by decide) ?_
                refine J_iload_n (pc := 150) dX2_behind_150 rfl 1 rfl ?_
                refine J_bipush (v := (43 : Int32)) (pc := 151) dX2_behind_151 (by decide) ?_
                refine J_icmp_eq (pc := 153) (tgt := 162) dX2_behind_153 (by decide) (fun c10 => ?_) (fun c10 => ?_)
                · replace h := ifp c10 h
                  refine J_bipush (v := (7 : Int32)) (pc := 162) dX2_behind_162 (by decide) ?_
                  refine J_goto (pc := 164) (tgt := 169) dX2_behind_164 (by decide) ?_
                  subst h
                  exact J_ireturn dX2_behind_169 rfl rfl rfl rfl rfl
                · replace h := ifn c10 h
                  refine J_iload_n (pc := 156) dX2_behind_156 rfl 1 rfl ?_
                  refine J_bipush (v := (45 : Int32)) (pc := 157) dX2_behind_157 (by decide) ?_
                  refine J_icmp_ne (pc := 159) (tgt := 167) dX2_behind_159 (by decide) (fun c11 => ?_) (fun c11 => ?_)
                  · replace h := ifn c11 h
                    refine J_bipush (v := (12 : Int32)) (pc := 167) dX2_behind_167 (by decide) ?_
                    subst h
                    exact J_ireturn dX2_behind_169 rfl rfl rfl rfl rfl
                  · replace h := ifp c11 h
                    refine J_bipush (v := (7 : Int32)) (pc := 162) dX2_behind_162 (by decide) ?_
                    refine J_goto (pc := 164) (tgt := 169) dX2_behind_164 (by decide) ?_
                    subst h
                    exact J_ireturn dX2_behind_169 rfl rfl rfl rfl rfl
              · replace h := ifn c28 h
                by_cases c29 : a0 = 7
                · replace h := ifp c29 h
                  refine J_topi c29.symm ?_
                  refine J_tableIn (pc := 1) (tgt := 170) dX2_behind_1 (by decide) (by decide) rfl (by decide) ?_
                  refine J_iload_n (pc := 170) dX2_behind_170 rfl 1 rfl ?_
                  refine J_bipush (v := (49 : Int32)) (pc := 171) dX2_behind_171 (by decide) ?_
                  refine J_bipush (v := (51 : Int32)) (pc := 173) dX2_behind_173 (by decide) ?_
                  refine J_callS (g := mi_X2_isAmong) (pc := 175) [.int a1, .int (49 : Int32), .int (51 : Int32)] [] ms_X2_isAmong w_678 (k_X2_isAmong  a1 (49 : Int32) (51 : Int32) _) rfl rfl ⟨⟨Nat.le_of_ble_eq_true rfl, Nat.le_of_ble_eq_true rfl⟩, Nat.le_of_ble_eq_true rfl, Nat.le_of_ble_eq_true rfl⟩ (Nat.le_of_ble_eq_true rfl) dX2_behind_175 (Jk_v rfl rfl fun hok12 => ?_)
                  refine J_if_eq (pc := 178) (tgt := 186) dX2_behind_178 (by decide) (fun c13 => ?_) (fun c13 => ?_)
                  · replace h := ifp c13 h
                    refine J_bipush (v := (12 : Int32)) (pc := 186) dX2_behind_186 (by decide) ?_
                    subst h
                    exact J_ireturn dX2_behind_188 rfl rfl rfl rfl rfl
                  · replace h := ifn c13 h
                    refine J_bipush (v := (11 : Int32)) (pc := 181) dX2_behind_181 (by decide) ?_
                    refine J_goto (pc := 183) (tgt := 188) dX2_behind_183 (by decide) ?_
                    subst h
                    exact J_ireturn dX2_behind_188 rfl rfl rfl rfl rfl
                · replace h := ifn c29 h
                  by_cases c30 : a0 = 8
                  · replace h := ifp c30 h
                    refine J_topi c30.symm ?_
                    refine J_tableIn (pc := 1) (tgt := 189) dX2_behind_1 (by decide) (by decide) rfl (by decide) ?_
                    refine J_iload_n (pc := 189) dX2_behind_189 rfl 1 rfl ?_
                    refine J_callS (g := mi_X2_behindWall) (pc := 190) [.int a1] [] ms_X2_behindWall w_681 (k_X2_behindWall  a1 _) rfl rfl ⟨⟨Nat.le_of_ble_eq_true rfl, Nat.le_of_ble_eq_true rfl⟩, Nat.le_of_ble_eq_true rfl, Nat.le_of_ble_eq_true rfl⟩ (Nat.le_of_ble_eq_true rfl) dX2_behind_190 (Jk_v rfl rfl fun hok14 => ?_)
                    subst h
                    exact J_ireturn dX2_behind_193 rfl rfl rfl rfl rfl
                  · replace h := ifn c30 h
                    by_cases c31 : a0 = 9
                    · replace h := ifp c31 h
                      refine J_topi c31.symm ?_
                      refine J_tableIn (pc := 1) (tgt := 194) dX2_behind_1 (by decide) (by decide) rfl (by decide) ?_
                      refine J_iload_n (pc := 194) dX2_behind_194 rfl 1 rfl ?_
                      refine J_bipush (v := (48 : Int32)) (pc := 195) dX2_behind_195 (by decide) ?_
                      refine J_bipush (v := (57 : Int32)) (pc := 197) dX2_behind_197 (by decide) ?_
                      refine J_callS (g := mi_X2_isAmong) (pc := 199) [.int a1, .int (48 : Int32), .int (57 : Int32)] [] ms_X2_isAmong w_678 (k_X2_isAmong  a1 (48 : Int32) (57 : Int32) _) rfl rfl ⟨⟨Nat.le_of_ble_eq_true rfl, Nat.le_of_ble_eq_true rfl⟩, Nat.le_of_ble_eq_true rfl, Nat.le_of_ble_eq_true rfl⟩ (Nat.le_of_ble_eq_true rfl) dX2_behind_199 (Jk_v rfl rfl fun hok15 => ?_)
                      refine J_if_eq (pc := 202) (tgt := 210) dX2_behind_202 (by decide) (fun c16 => ?_) (fun c16 => ?_)
                      · replace h := ifp c16 h
                        refine J_iload_n (pc := 210) dX2_behind_210 rfl 1 rfl ?_
                        refine J_callS (g := mi_X2_behindEnd) (pc := 211) [.int a1] [] ms_X2_behindEnd w_684 (k_X2_behindEnd  a1 _) rfl rfl ⟨⟨Nat.le_of_ble_eq_true rfl, Nat.le_of_ble_eq_true rfl⟩, Nat.le_of_ble_eq_true rfl, Nat.le_of_ble_eq_true rfl⟩ (Nat.le_of_ble_eq_true rfl) dX2_behind_211 (Jk_v rfl rfl fun hok17 => ?_)
                        subst h
                        exact J_ireturn dX2_behind_214 rfl rfl rfl rfl rfl
                      · replace h := ifn c16 h
                        refine J_bipush (v := (11 : Int32)) (pc := 205) dX2_behind_205 (by decide) ?_
                        refine J_goto (pc := 207) (tgt := 214) dX2_behind_207 (by decide) ?_
                        subst h
                        exact J_ireturn dX2_behind_214 rfl rfl rfl rfl rfl
                    · replace h := ifn c31 h
                      by_cases c32 : a0 = 10
                      · replace h := ifp c32 h
                        refine J_topi c32.symm ?_
                        refine J_tableIn (pc := 1) (tgt := 215) dX2_behind_1 (by decide) (by decide) rfl (by decide) ?_
                        refine J_iload_n (pc := 215) dX2_behind_215 rfl 1 rfl ?_
                        refine J_bipush (v := (48 : Int32)) (pc := 216) dX2_behind_216 (by decide) ?_
                        refine J_bipush (v := (52 : Int32)) (pc := 218) dX2_behind_218 (by decide) ?_
                        refine J_callS (g := mi_X2_isAmong) (pc := 220) [.int a1, .int (48 : Int32), .int (52 : Int32)] [] ms_X2_isAmong w_678 (k_X2_isAmong  a1 (48 : Int32) (52 : Int32) _) rfl rfl ⟨⟨Nat.le_of_ble_eq_true rfl, Nat.le_of_ble_eq_true rfl⟩, Nat.le_of_ble_eq_true rfl, Nat.le_of_ble_eq_true rfl⟩ (Nat.le_of_ble_eq_true rfl) dX2_behind_220 (Jk_v rfl rfl fun hok18 => ?_)
                        refine J_if_eq (pc := 223) (tgt := 231) dX2_behind_223 (by decide) (fun c19 => ?_) (fun c19 => ?_)
                        · replace h := ifp c19 h
                          refine J_iload_n (pc := 231) dX2_behind_231 rfl 1 rfl ?_
                          refine J_callS (g := mi_X2_behindEnd) (pc := 232) [.int a1] [] ms_X2_behindEnd w_684 (k_X2_behindEnd  a1 _) rfl rfl ⟨⟨Nat.le_of_ble_eq_true rfl, Nat.le_of_ble_eq_true rfl⟩, Nat.le_of_ble_eq_true rfl, Nat.le_of_ble_eq_true rfl⟩ (Nat.le_of_ble_eq_true rfl) dX2_behind_232 (Jk_v rfl rfl fun hok20 => ?_)
                          subst h
                          exact J_ireturn dX2_behind_235 rfl rfl rfl rfl rfl
                        · replace h := ifn c19 h
                          refine J_bipush (v := (11 : Int32)) (pc := 226) dX2_behind_226 (by decide) ?_
                          refine J_goto (pc := 228) (tgt := 235) dX2_behind_228 (by decide) ?_
                          subst h
                          exact J_ireturn dX2_behind_235 rfl rfl rfl rfl rfl
                      · replace h := ifn c32 h
                        by_cases c33 : a0 = 11
                        · replace h := ifp c33 h
                          refine J_topi c33.symm ?_
                          refine J_tableIn (pc := 1) (tgt := 236) dX2_behind_1 (by decide) (by decide) rfl (by decide) ?_
                          refine J_iload_n (pc := 236) dX2_behind_236 rfl 1 rfl ?_
                          refine J_callS (g := mi_X2_behindEnd) (pc := 237) [.int a1] [] ms_X2_behindEnd w_684 (k_X2_behindEnd  a1 _) rfl rfl ⟨⟨Nat.le_of_ble_eq_true rfl, Nat.le_of_ble_eq_true rfl⟩, Nat.le_of_ble_eq_true rfl, Nat.le_of_ble_eq_true rfl⟩ (Nat.le_of_ble_eq_true rfl) dX2_behind_237 (Jk_v rfl rfl fun hok21 => ?_)
                          subst h
                          exact J_ireturn dX2_behind_240 rfl rfl rfl rfl rfl
                        · replace h := ifn c33 h
                          refine J_tableOut (pc := 1) (tgt := 241) dX2_behind_1 (tsw_X2_behind_1 a0 c22 c23 c24 c25 c26 c27 c28 c29 c30 c31 c32 c33) (by decide) ?_
                          refine J_bipush (v := (12 : Int32)) (pc := 241) dX2_behind_241 (by decide) ?_
                          subst h
                          exact J_ireturn dX2_behind_243 rfl rfl rfl rfl rfl
set_option maxHeartbeats 4000000 in
set_option maxRecDepth 100000 in
theorem kL_X2_isComplete_L4 {κ : Kx} {E : En} {Q : State → Prop} {ρ : Type} {r : ρ} (M : Wd) (K28 : Int32 → Option ρ) (hK28 : ∀ (x1 : Int32), K28 x1 = some r → J κ E mi_X2_isComplete Q 0 0 [(1, .int x1)] M 28 []) : ∀ (m : Nat) (x1 : Int32) (x2 : Int32), F_X2_isComplete_L4 M K28 m x1 x2 = some r → J κ E mi_X2_isComplete Q 0 0 [(0, .ref 51), (1, .int x1), (2, .int x2)] M 4 [] := by
  intro m
  induction m with
  | zero => intro x1 x2 h; exact (nomatch (show (none : Option ρ) = some r from h))
  | succ m ih =>
    intro x1 x2 h
    unfold F_X2_isComplete_L4 at h
    refine J_iload_n (pc := 4) dX2_isComplete_4 rfl 2 rfl ?_
    refine J_aload_n (pc := 5) dX2_isComplete_5 rfl 0 rfl ?_
    refine get_51_1 (pc := 6) w_147 dX2_isComplete_6 ?_
    refine J_icmp_ge (pc := 9) (tgt := 28) dX2_isComplete_9 (by decide) (fun c1 => ?_) (fun c1 => ?_)
    · replace h := ifp c1 h
      refine J_sub [1] rfl ?_
      exact hK28 _ h
    · replace h := ifn c1 h
      refine J_iload_n (pc := 12) dX2_isComplete_12 rfl 1 rfl ?_
      refine J_aload_n (pc := 13) dX2_isComplete_13 rfl 0 rfl ?_
      refine J_iload_n (pc := 14) dX2_isComplete_14 rfl 2 rfl ?_
      obtain ⟨v2, hc3, h⟩ := obind_e h
      refine J_callV (g := mi_X2_codeAt) (ci := 2) (pc := 15) [.int x2] [.int x1] mv_X2_codeAt w_671 (k_X2_codeAt  x2 _ hc3) rfl (by decide) rfl rfl rfl ⟨⟨Nat.le_of_ble_eq_true rfl, Nat.le_of_ble_eq_true rfl⟩, Nat.le_of_ble_eq_true rfl, Nat.le_of_ble_eq_true rfl⟩ (Nat.le_of_ble_eq_true rfl) dX2_isComplete_15 (Jk_v rfl rfl fun hok4 => ?_)
      refine J_callS (g := mi_X2_behind) (pc := 18) [.int x1, .int v2] [] ms_X2_behind w_672 (k_X2_behind  x1 v2 _) rfl rfl ⟨⟨Nat.le_of_ble_eq_true rfl, Nat.le_of_ble_eq_true rfl⟩, Nat.le_of_ble_eq_true rfl, Nat.le_of_ble_eq_true rfl⟩ (Nat.le_of_ble_eq_true rfl) dX2_isComplete_18 (Jk_v rfl rfl fun hok5 => ?_)
      obtain ⟨v6, e7, h⟩ := bnd_e h
      refine J_topi e7 ?_
      refine J_istore_n (pc := 21) dX2_isComplete_21 rfl (Nat.le_of_ble_eq_true rfl) [1, 0, 2] rfl ?_
      obtain ⟨v8, e9, h⟩ := bnd_e h
      refine J_iinc (v := v8) (pc := 22) dX2_isComplete_22 2 rfl (by rw [e9]; rfl) (Nat.le_of_ble_eq_true rfl) [1, 2, 0] rfl ?_
      refine J_LS [(0, .ref 51), (1, .int v6), (2, .int v8)] [] rfl rfl ?_
      refine J_goto (pc := 25) (tgt := 4) dX2_isComplete_25 (by decide) ?_
      exact ih _ _ h
set_option maxHeartbeats 4000000 in
set_option maxRecDepth 100000 in
theorem k_X2_isComplete {E : En} (M : Wd) {r : Int32} (h : F_X2_isComplete M = some r) : Con E mi_X2_isComplete [.ref 51] M (.inl (some (.int r))) M := by
  unfold F_X2_isComplete at h
  refine Con.of (by decide) rfl (Nat.le_of_ble_eq_true rfl) (fun κ => ?_)
  show J κ E mi_X2_isComplete _ 0 0 [(0, .ref 51)] M 0 []
  refine J_iconst (v := (0 : Int32)) (pc := 0) dX2_isComplete_0 (by decide) ?_
  refine J_istore_n (pc := 1) dX2_isComplete_1 rfl (Nat.le_of_ble_eq_true rfl) [1, 0] rfl ?_
  refine J_iconst (v := (0 : Int32)) (pc := 2) dX2_isComplete_2 (by decide) ?_
  refine J_istore_n (pc := 3) dX2_isComplete_3 rfl (Nat.le_of_ble_eq_true rfl) [1, 2, 0] rfl ?_
  refine J_LS [(0, .ref 51), (1, .int (0 : Int32)), (2, .int (0 : Int32))] [] rfl rfl ?_
  refine kL_X2_isComplete_L4 _ _ (fun v10 h => ?_) fuelN _ _ h
  refine J_iload_n (pc := 28) dX2_isComplete_28 rfl 0 rfl ?_
  refine J_bipush (v := (11 : Int32)) (pc := 29) dX2_isComplete_29 (by decide) ?_
  refine J_icmp_eq (pc := 31) (tgt := 46) dX2_isComplete_31 (by decide) (fun c11 => ?_) (fun c11 => ?_)
  · replace h := ifp c11 h
    refine J_iconst (v := (1 : Int32)) (pc := 46) dX2_isComplete_46 (by decide) ?_
    refine J_goto (pc := 47) (tgt := 51) dX2_isComplete_47 (by decide) ?_
    cases h
    exact J_zreturn dX2_isComplete_51 rfl (Or.inr rfl) rfl rfl rfl rfl
  · replace h := ifn c11 h
    refine J_iload_n (pc := 34) dX2_isComplete_34 rfl 0 rfl ?_
    refine J_bipush (v := (9 : Int32)) (pc := 35) dX2_isComplete_35 (by decide) ?_
    refine J_icmp_eq (pc := 37) (tgt := 46) dX2_isComplete_37 (by decide) (fun c12 => ?_) (fun c12 => ?_)
    · replace h := ifp c12 h
      refine J_iconst (v := (1 : Int32)) (pc := 46) dX2_isComplete_46 (by decide) ?_
      refine J_goto (pc := 47) (tgt := 51) dX2_isComplete_47 (by decide) ?_
      cases h
      exact J_zreturn dX2_isComplete_51 rfl (Or.inr rfl) rfl rfl rfl rfl
    · replace h := ifn c12 h
      refine J_iload_n (pc := 40) dX2_isComplete_40 rfl 0 rfl ?_
      refine J_bipush (v := (10 : Int32)) (pc := 41) dX2_isComplete_41 (by decide) ?_
      refine J_icmp_ne (pc := 43) (tgt := 50) dX2_isComplete_43 (by decide) (fun c13 => ?_) (fun c13 => ?_)
      · replace h := ifn c13 h
        refine J_iconst (v := (0 : Int32)) (pc := 50) dX2_isComplete_50 (by decide) ?_
        cases h
        exact J_zreturn dX2_isComplete_51 rfl (Or.inl rfl) rfl rfl rfl rfl
      · replace h := ifp c13 h
        refine J_iconst (v := (1 : Int32)) (pc := 46) dX2_isComplete_46 (by decide) ?_
        refine J_goto (pc := 47) (tgt := 51) dX2_isComplete_47 (by decide) ?_
        cases h
        exact J_zreturn dX2_isComplete_51 rfl (Or.inr rfl) rfl rfl rfl rfl
set_option maxHeartbeats 4000000 in
set_option maxRecDepth 100000 in
theorem k_X3_refuse {E : En} (a0 : Int32) (M : Wd) {r : Unit ⊕ Nat} {M' : Wd} (h : F_X3_refuse a0 M = some (r, M')) : Con E mi_X3_refuse [.int a0] M (ocV r) M' := by
  unfold F_X3_refuse at h
  refine Con.of (by decide) rfl (Nat.le_of_ble_eq_true rfl) (fun κ => ?_)
  show J κ E mi_X3_refuse _ 0 0 [(0, .int a0)] M 0 []
  refine J_iload_n (pc := 0) dX3_refuse_0 rfl 0 rfl ?_
  refine J_iconst (v := (1 : Int32)) (pc := 1) dX3_refuse_1 (by decide) ?_
  refine J_icmp_ne (pc := 2) (tgt := 16) dX3_refuse_2 (by decide) (fun c1 => ?_) (fun c1 => ?_)
  · replace h := ifn c1 h
    refine J_iload_n (pc := 16) dX3_refuse_16 rfl 0 rfl ?_
    refine J_iconst (v := (2 : Int32)) (pc := 17) dX3_refuse_17 (by decide) ?_
    refine J_icmp_ne (pc := 18) (tgt := 32) dX3_refuse_18 (by decide) (fun c2 => ?_) (fun c2 => ?_)
    · replace h := ifn c2 h
      refine J_iload_n (pc := 32) dX3_refuse_32 rfl 0 rfl ?_
      refine J_iconst (v := (3 : Int32)) (pc := 33) dX3_refuse_33 (by decide) ?_
      refine J_icmp_ne (pc := 34) (tgt := 48) dX3_refuse_34 (by decide) (fun c3 => ?_) (fun c3 => ?_)
      · replace h := ifn c3 h
        cases h
        refine J_wide (k' := 1) (n' := 6) (Nat.le_of_ble_eq_true rfl) (Nat.le_of_ble_eq_true rfl) ?_
        exact J_return dX3_refuse_48 rfl rfl rfl rfl rfl
      · replace h := ifp c3 h
        cases h
        exact J_throwSW (pc := 37) (text := "the park does not allow it") rfl rfl rfl (by decide +kernel) w_535 w_29 (by decide) ats_RX3_66 dX3_refuse_37 dX3_refuse_40 dX3_refuse_41 dX3_refuse_44 dX3_refuse_47 ⟨⟨Nat.le_of_ble_eq_true rfl, Nat.le_of_ble_eq_true rfl⟩, Nat.le_of_ble_eq_true rfl, Nat.le_of_ble_eq_true rfl⟩
    · replace h := ifp c2 h
      cases h
      exact J_throwSW (pc := 21) (text := "an argument is out of range") rfl rfl rfl (by decide +kernel) w_519 w_28 (by decide) ats_RX3_110 dX3_refuse_21 dX3_refuse_24 dX3_refuse_25 dX3_refuse_28 dX3_refuse_31 ⟨⟨Nat.le_of_ble_eq_true rfl, Nat.le_of_ble_eq_true rfl⟩, Nat.le_of_ble_eq_true rfl, Nat.le_of_ble_eq_true rfl⟩
  · replace h := ifp c1 h
    cases h
    exact J_throwSW (pc := 5) (text := "there is no such lane, cell or car") rfl rfl rfl (by decide +kernel) w_451 w_27 (by decide) ats_RX3_168 dX3_refuse_5 dX3_refuse_8 dX3_refuse_9 dX3_refuse_12 dX3_refuse_15 ⟨⟨Nat.le_of_ble_eq_true rfl, Nat.le_of_ble_eq_true rfl⟩, Nat.le_of_ble_eq_true rfl, Nat.le_of_ble_eq_true rfl⟩
set_option maxHeartbeats 4000000 in
set_option maxRecDepth 100000 in
theorem kL_X3_dropOldestSaved_L9 {κ : Kx} {E : En} {Q : State → Prop} {ρ : Type} {r : ρ} (a1 : Nat) (K34 : Wd → Option ρ) (hK34 : ∀ (M : Wd), K34 M = some r → J κ E mi_X3_dropOldestSaved Q 0 0 [(0, .ref 0), (1, .ref a1)] M 34 []) : ∀ (m : Nat) (x2 : Int32) (M : Wd), F_X3_dropOldestSaved_L9 a1 K34 m x2 M = some r → J κ E mi_X3_dropOldestSaved Q 0 0 [(0, .ref 0), (1, .ref a1), (2, .int x2)] M 9 [] := by
  intro m
  induction m with
  | zero => intro x2 M h; exact (nomatch (show (none : Option ρ) = some r from h))
  | succ m ih =>
    intro x2 M h
    unfold F_X3_dropOldestSaved_L9 at h
    refine J_iload_n (pc := 9) dX3_dropOldestSaved_9 rfl 2 rfl ?_
    refine J_iconst (v := (5 : Int32)) (pc := 10) dX3_dropOldestSaved_10 (by decide) ?_
    refine J_icmp_ge (pc := 11) (tgt := 34) dX3_dropOldestSaved_11 (by decide) (fun c3 => ?_) (fun c3 => ?_)
    · replace h := ifp c3 h
      refine J_sub [0, 1] rfl ?_
      exact hK34 _ h
    · replace h := ifn c3 h
      refine J_aload_n (pc := 14) dX3_dropOldestSaved_14 rfl 0 rfl ?_
      refine get_0_2 (pc := 15) w_156 dX3_dropOldestSaved_15 ?_
      refine J_iload_n (pc := 18) dX3_dropOldestSaved_18 rfl 2 rfl ?_
      refine J_iconst (v := (1 : Int32)) (pc := 19) dX3_dropOldestSaved_19 (by decide) ?_
      refine J_isub (pc := 20) dX3_dropOldestSaved_20 ?_
      refine J_aload_n (pc := 21) dX3_dropOldestSaved_21 rfl 0 rfl ?_
      refine get_0_2 (pc := 22) w_156 dX3_dropOldestSaved_22 ?_
      refine J_iload_n (pc := 25) dX3_dropOldestSaved_25 rfl 2 rfl ?_
      obtain ⟨hk6, h⟩ := inb_e h
      refine J_aald (pc := 26) hk6 dX3_dropOldestSaved_26 ?_
      refine J_topa (y := (M.2.2 x2.toNatClampNeg)) rfl ?_
      obtain ⟨hk7, h⟩ := inb_e h
      obtain ⟨hp8, h⟩ := grd_e h
      refine J_aast (pc := 27) hp8 hk7 dX3_dropOldestSaved_27 ?_
      obtain ⟨v9, e10, h⟩ := bnd_e h
      refine J_iinc (v := v9) (pc := 28) dX3_dropOldestSaved_28 2 rfl (by rw [e10]; rfl) (Nat.le_of_ble_eq_true rfl) [1, 2, 0] rfl ?_
      refine J_goto (pc := 31) (tgt := 9) dX3_dropOldestSaved_31 (by decide) ?_
      exact ih _ _ h
set_option maxHeartbeats 4000000 in
set_option maxRecDepth 100000 in
theorem k_X3_dropOldestSaved {E : En} (M : Wd) {M' : Wd} (h : F_X3_dropOldestSaved M = some M') : Con E mi_X3_dropOldestSaved [.ref 0] M (.inl none) M' := by
  unfold F_X3_dropOldestSaved at h
  refine Con.of (by decide) rfl (Nat.le_of_ble_eq_true rfl) (fun κ => ?_)
  show J κ E mi_X3_dropOldestSaved _ 0 0 [(0, .ref 0)] M 0 []
  refine J_aload_n (pc := 0) dX3_dropOldestSaved_0 rfl 0 rfl ?_
  refine get_0_2 (pc := 1) w_156 dX3_dropOldestSaved_1 ?_
  refine J_iconst (v := (0 : Int32)) (pc := 4) dX3_dropOldestSaved_4 (by decide) ?_
  refine J_aald (pc := 5) (vpc rfl) dX3_dropOldestSaved_5 ?_
  refine J_topa (y := (M.2.2 0)) rfl ?_
  obtain ⟨v1, e2, h⟩ := bnd_e h
  refine J_topa e2 ?_
  refine J_astore_n (pc := 6) dX3_dropOldestSaved_6 rfl (Nat.le_of_ble_eq_true rfl) [1, 0] rfl ?_
  refine J_iconst (v := (1 : Int32)) (pc := 7) dX3_dropOldestSaved_7 (by decide) ?_
  refine J_istore_n (pc := 8) dX3_dropOldestSaved_8 rfl (Nat.le_of_ble_eq_true rfl) [1, 2, 0] rfl ?_
  refine J_LS [(0, .ref 0), (1, .ref v1), (2, .int (1 : Int32))] [] rfl rfl ?_
  refine kL_X3_dropOldestSaved_L9 _ _ (fun M11 h => ?_) fuelN _ _ h
  refine J_aload_n (pc := 34) dX3_dropOldestSaved_34 rfl 0 rfl ?_
  refine get_0_2 (pc := 35) w_156 dX3_dropOldestSaved_35 ?_
  refine J_iconst (v := (4 : Int32)) (pc := 38) dX3_dropOldestSaved_38 (by decide) ?_
  refine J_aload_n (pc := 39) dX3_dropOldestSaved_39 rfl 1 rfl ?_
  obtain ⟨hp12, h⟩ := grd_e h
  refine J_aast (pc := 40) hp12 (vpc rfl) dX3_dropOldestSaved_40 ?_
  refine J_M (upP M11 4 v1) rfl ?_
  refine J_aload_n (pc := 41) dX3_dropOldestSaved_41 rfl 0 rfl ?_
  refine J_iconst (v := (4 : Int32)) (pc := 42) dX3_dropOldestSaved_42 (by decide) ?_
  refine put_0_5 (pc := 43) w_159 dX3_dropOldestSaved_43 ?_
  cases h
  exact J_return dX3_dropOldestSaved_46 rfl rfl rfl rfl rfl
set_option maxHeartbeats 4000000 in
set_option maxRecDepth 100000 in
theorem k_X3_save {E : En} (M : Wd) {M' : Wd} (h : F_X3_save M = some M') : Con E mi_X3_save [.ref 0] M (.inl none) M' := by
  unfold F_X3_save at h
  refine Con.of (by decide) rfl (Nat.le_of_ble_eq_true rfl) (fun κ => ?_)
  show J κ E mi_X3_save _ 0 0 [(0, .ref 0)] M 0 []
  refine J_aload_n (pc := 0) dX3_save_0 rfl 0 rfl ?_
  refine get_0_5 (pc := 1) w_159 dX3_save_1 ?_
  refine J_iconst (v := (5 : Int32)) (pc := 4) dX3_save_4 (by decide) ?_
  obtain ⟨M1, hv5, h⟩ := obind_e h
  refine J_join [(0, .ref 0)] M1 12 [] ?_ (fun hJ => ?_)
  · refine J_aload_n (pc := 12) dX3_save_12 rfl 0 rfl ?_
    refine get_0_0 (pc := 13) w_154 dX3_save_13 ?_
    refine J_aload_n (pc := 16) dX3_save_16 rfl 0 rfl ?_
    refine get_0_2 (pc := 17) w_156 dX3_save_17 ?_
    refine J_aload_n (pc := 20) dX3_save_20 rfl 0 rfl ?_
    refine get_0_5 (pc := 21) w_159 dX3_save_21 ?_
    obtain ⟨hk8, h⟩ := inb_e h
    refine J_aald (pc := 24) hk8 dX3_save_24 ?_
    refine J_topa (y := (M1.2.2 (M1.1 0 5).toNatClampNeg)) rfl ?_
    obtain ⟨M9, hc10, h⟩ := obind_e h
    refine J_callS (g := mi_X3_copy) (pc := 25) [.ref 1, .ref (M1.2.2 (M1.1 0 5).toNatClampNeg)] [] ms_X3_copy w_559 (k_X3_copy 1 (M1.2.2 (M1.1 0 5).toNatClampNeg) _ hc10) rfl rfl ⟨⟨Nat.le_of_ble_eq_true rfl, Nat.le_of_ble_eq_true rfl⟩, Nat.le_of_ble_eq_true rfl, Nat.le_of_ble_eq_true rfl⟩ (Nat.le_of_ble_eq_true rfl) dX3_save_25 (Jk_0 rfl rfl ?_)
    refine J_aload_n (pc := 28) dX3_save_28 rfl 0 rfl ?_
    refine J_dup (pc := 29) dX3_save_29 rfl ?_
    refine get_0_5 (pc := 30) w_159 dX3_save_30 ?_
    refine J_iconst (v := (1 : Int32)) (pc := 33) dX3_save_33 (by decide) ?_
    refine J_iadd (pc := 34) dX3_save_34 ?_
    refine put_0_5 (pc := 35) w_159 dX3_save_35 ?_
    cases h
    exact J_return dX3_save_38 rfl rfl rfl rfl rfl
  · replace h := hv5
    refine J_icmp_lt (pc := 5) (tgt := 12) dX3_save_5 (by decide) (fun c2 => ?_) (fun c2 => ?_)
    · replace h := ifp c2 h
      cases h
      exact hJ
    · replace h := ifn c2 h
      refine J_aload_n (pc := 8) dX3_save_8 rfl 0 rfl ?_
      obtain ⟨M3, hc4, h⟩ := obind_e h
      refine J_callV (g := mi_X3_dropOldestSaved) (ci := 3) (pc := 9) [] [] mv_X3_dropOldestSaved w_555 (k_X3_dropOldestSaved _ hc4) rfl (by decide) rfl rfl rfl ⟨⟨Nat.le_of_ble_eq_true rfl, Nat.le_of_ble_eq_true rfl⟩, Nat.le_of_ble_eq_true rfl, Nat.le_of_ble_eq_true rfl⟩ (Nat.le_of_ble_eq_true rfl) dX3_save_9 (Jk_0 rfl rfl ?_)
      cases h
      exact hJ
set_option maxHeartbeats 4000000 in
set_option maxRecDepth 100000 in
theorem k_X3_addCar {E : En} (a1 : Int32) (a2 : Int32) (a3 : Int32) (M : Wd) {r : Int32 ⊕ Nat} {M' : Wd} (h : F_X3_addCar a1 a2 a3 M = some (r, M')) : Con E mi_X3_addCar [.ref 0, .int a1, .int a2, .int a3] M (ocI r) M' := by
  unfold F_X3_addCar at h
  refine Con.of (by decide) rfl (Nat.le_of_ble_eq_true rfl) (fun κ => ?_)
  show J κ E mi_X3_addCar _ 0 0 [(0, .ref 0), (1, .int a1), (2, .int a2), (3, .int a3)] M 0 []
  refine J_aload_n (pc := 0) dX3_addCar_0 rfl 0 rfl ?_
  refine get_0_0 (pc := 1) w_154 dX3_addCar_1 ?_
  refine J_iload_n (pc := 4) dX3_addCar_4 rfl 1 rfl ?_
  refine J_iload_n (pc := 5) dX3_addCar_5 rfl 2 rfl ?_
  refine J_iload_n (pc := 6) dX3_addCar_6 rfl 3 rfl ?_
  obtain ⟨v1, hc2, h⟩ := obind_e h
  refine J_callV (g := mi_X1_troubleOfEntering) (ci := 1) (pc := 7) [.int a1, .int a2, .int a3] [] mv_X1_troubleOfEntering w_444 (k_X1_troubleOfEntering  a1 a2 a3 _ hc2) rfl (by decide) rfl rfl rfl ⟨⟨Nat.le_of_ble_eq_true rfl, Nat.le_of_ble_eq_true rfl⟩, Nat.le_of_ble_eq_true rfl, Nat.le_of_ble_eq_true rfl⟩ (Nat.le_of_ble_eq_true rfl) dX3_addCar_7 (Jk_v rfl rfl fun hok3 => ?_)
  rcases obindX_e h with ⟨v4, M5, hc6, h⟩ | ⟨x8, M5, hc6, h⟩
  · refine J_callS (g := mi_X3_refuse) (pc := 10) [.int v1] [] ms_X3_refuse w_448 (k_X3_refuse v1 _ hc6) rfl rfl ⟨⟨Nat.le_of_ble_eq_true rfl, Nat.le_of_ble_eq_true rfl⟩, Nat.le_of_ble_eq_true rfl, Nat.le_of_ble_eq_true rfl⟩ (Nat.le_of_ble_eq_true rfl) dX3_addCar_10 (Jk_0k 1 6 rfl rfl ?_)
    refine J_aload_n (pc := 13) dX3_addCar_13 rfl 0 rfl ?_
    obtain ⟨M9, hc10, h⟩ := obind_e h
    refine J_callV (g := mi_X3_save) (ci := 3) (pc := 14) [] [] mv_X3_save w_551 (k_X3_save _ hc10) rfl (by decide) rfl rfl rfl ⟨⟨Nat.le_of_ble_eq_true rfl, Nat.le_of_ble_eq_true rfl⟩, Nat.le_of_ble_eq_true rfl, Nat.le_of_ble_eq_true rfl⟩ (Nat.le_of_ble_eq_true rfl) dX3_addCar_14 (Jk_0 rfl rfl ?_)
    refine J_aload_n (pc := 17) dX3_addCar_17 rfl 0 rfl ?_
    refine get_0_0 (pc := 18) w_154 dX3_addCar_18 ?_
    refine J_iload_n (pc := 21) dX3_addCar_21 rfl 1 rfl ?_
    refine J_iload_n (pc := 22) dX3_addCar_22 rfl 2 rfl ?_
    refine J_iload_n (pc := 23) dX3_addCar_23 rfl 3 rfl ?_
    obtain ⟨v11, M12, hc13, h⟩ := obind2_e h
    refine J_callV (g := mi_X1_enter) (ci := 1) (pc := 24) [.int a1, .int a2, .int a3] [] mv_X1_enter w_569 (k_X1_enter  a1 a2 a3 _ hc13) rfl (by decide) rfl rfl rfl ⟨⟨Nat.le_of_ble_eq_true rfl, Nat.le_of_ble_eq_true rfl⟩, Nat.le_of_ble_eq_true rfl, Nat.le_of_ble_eq_true rfl⟩ (Nat.le_of_ble_eq_true rfl) dX3_addCar_24 (Jk_v rfl rfl fun hok14 => ?_)
    cases h
    refine J_wide (k' := 1) (n' := 6) (Nat.le_of_ble_eq_true rfl) (Nat.le_of_ble_eq_true rfl) ?_
    exact J_ireturn dX3_addCar_27 rfl rfl rfl rfl rfl
  · cases h
    refine J_callS (g := mi_X3_refuse) (pc := 10) [.int v1] [] ms_X3_refuse w_448 (k_X3_refuse v1 _ hc6) rfl rfl ⟨⟨Nat.le_of_ble_eq_true rfl, Nat.le_of_ble_eq_true rfl⟩, Nat.le_of_ble_eq_true rfl, Nat.le_of_ble_eq_true rfl⟩ (Nat.le_of_ble_eq_true rfl) dX3_addCar_10 (Jk_out rfl rfl rfl ⟨⟨Nat.le_of_ble_eq_true rfl, Nat.le_of_ble_eq_true rfl⟩, Nat.le_of_ble_eq_true rfl, Nat.le_of_ble_eq_true rfl⟩)
set_option maxHeartbeats 4000000 in
set_option maxRecDepth 100000 in
theorem k_X3_dropLast {E : En} (M : Wd) {r : Int32 ⊕ Nat} {M' : Wd} (h : F_X3_dropLast M = some (r, M')) : Con E mi_X3_dropLast [.ref 0] M (ocI r) M' := by
  unfold F_X3_dropLast at h
  refine Con.of (by decide) rfl (Nat.le_of_ble_eq_true rfl) (fun κ => ?_)
  show J κ E mi_X3_dropLast _ 0 0 [(0, .ref 0)] M 0 []
  refine J_aload_n (pc := 0) dX3_dropLast_0 rfl 0 rfl ?_
  refine get_0_0 (pc := 1) w_154 dX3_dropLast_1 ?_
  refine get_1_5 (pc := 4) w_61 dX3_dropLast_4 ?_
  refine J_if_ne (pc := 7) (tgt := 20) dX3_dropLast_7 (by decide) (fun c1 => ?_) (fun c1 => ?_)
  · replace h := ifn c1 h
    refine J_aload_n (pc := 20) dX3_dropLast_20 rfl 0 rfl ?_
    obtain ⟨M2, hc3, h⟩ := obind_e h
    refine J_callV (g := mi_X3_save) (ci := 3) (pc := 21) [] [] mv_X3_save w_551 (k_X3_save _ hc3) rfl (by decide) rfl rfl rfl ⟨⟨Nat.le_of_ble_eq_true rfl, Nat.le_of_ble_eq_true rfl⟩, Nat.le_of_ble_eq_true rfl, Nat.le_of_ble_eq_true rfl⟩ (Nat.le_of_ble_eq_true rfl) dX3_dropLast_21 (Jk_0 rfl rfl ?_)
    refine J_aload_n (pc := 24) dX3_dropLast_24 rfl 0 rfl ?_
    refine get_0_0 (pc := 25) w_154 dX3_dropLast_25 ?_
    obtain ⟨v4, M5, hc6, h⟩ := obind2_e h
    refine J_callV (g := mi_X1_leave) (ci := 1) (pc := 28) [] [] mv_X1_leave w_584 (k_X1_leave  _ hc6) rfl (by decide) rfl rfl rfl ⟨⟨Nat.le_of_ble_eq_true rfl, Nat.le_of_ble_eq_true rfl⟩, Nat.le_of_ble_eq_true rfl, Nat.le_of_ble_eq_true rfl⟩ (Nat.le_of_ble_eq_true rfl) dX3_dropLast_28 (Jk_v rfl rfl fun hok7 => ?_)
    cases h
    refine J_wide (k' := 1) (n' := 6) (Nat.le_of_ble_eq_true rfl) (Nat.le_of_ble_eq_true rfl) ?_
    exact J_ireturn dX3_dropLast_31 rfl rfl rfl rfl rfl
  · replace h := ifp c1 h
    cases h
    exact J_throwS (pc := 10) (text := "there is no car") rfl rfl rfl (by decide +kernel) w_535 w_29 (by decide) ats_RX3_66 dX3_dropLast_10 dX3_dropLast_13 dX3_dropLast_14 dX3_dropLast_16 dX3_dropLast_19 ⟨⟨Nat.le_of_ble_eq_true rfl, Nat.le_of_ble_eq_true rfl⟩, Nat.le_of_ble_eq_true rfl, Nat.le_of_ble_eq_true rfl⟩
set_option maxHeartbeats 4000000 in
set_option maxRecDepth 100000 in
theorem k_X3_toggleWall {E : En} (a1 : Int32) (M : Wd) {r : Int32 ⊕ Nat} {M' : Wd} (h : F_X3_toggleWall a1 M = some (r, M')) : Con E mi_X3_toggleWall [.ref 0, .int a1] M (ocI r) M' := by
  unfold F_X3_toggleWall at h
  refine Con.of (by decide) rfl (Nat.le_of_ble_eq_true rfl) (fun κ => ?_)
  show J κ E mi_X3_toggleWall _ 0 0 [(0, .ref 0), (1, .int a1)] M 0 []
  refine J_aload_n (pc := 0) dX3_toggleWall_0 rfl 0 rfl ?_
  refine get_0_0 (pc := 1) w_154 dX3_toggleWall_1 ?_
  refine J_iload_n (pc := 4) dX3_toggleWall_4 rfl 1 rfl ?_
  obtain ⟨v1, hc2, h⟩ := obind_e h
  refine J_callV (g := mi_X1_troubleOfWall) (ci := 1) (pc := 5) [.int a1] [] mv_X1_troubleOfWall w_709 (k_X1_troubleOfWall  a1 _ hc2) rfl (by decide) rfl rfl rfl ⟨⟨Nat.le_of_ble_eq_true rfl, Nat.le_of_ble_eq_true rfl⟩, Nat.le_of_ble_eq_true rfl, Nat.le_of_ble_eq_true rfl⟩ (Nat.le_of_ble_eq_true rfl) dX3_toggleWall_5 (Jk_v rfl rfl fun hok3 => ?_)
  rcases obindX_e h with ⟨v4, M5, hc6, h⟩ | ⟨x8, M5, hc6, h⟩
  · refine J_callS (g := mi_X3_refuse) (pc := 8) [.int v1] [] ms_X3_refuse w_448 (k_X3_refuse v1 _ hc6) rfl rfl ⟨⟨Nat.le_of_ble_eq_true rfl, Nat.le_of_ble_eq_true rfl⟩, Nat.le_of_ble_eq_true rfl, Nat.le_of_ble_eq_true rfl⟩ (Nat.le_of_ble_eq_true rfl) dX3_toggleWall_8 (Jk_0k 1 6 rfl rfl ?_)
    refine J_aload_n (pc := 11) dX3_toggleWall_11 rfl 0 rfl ?_
    obtain ⟨M9, hc10, h⟩ := obind_e h
    refine J_callV (g := mi_X3_save) (ci := 3) (pc := 12) [] [] mv_X3_save w_551 (k_X3_save _ hc10) rfl (by decide) rfl rfl rfl ⟨⟨Nat.le_of_ble_eq_true rfl, Nat.le_of_ble_eq_true rfl⟩, Nat.le_of_ble_eq_true rfl, Nat.le_of_ble_eq_true rfl⟩ (Nat.le_of_ble_eq_true rfl) dX3_toggleWall_12 (Jk_0 rfl rfl ?_)
    refine J_aload_n (pc := 15) dX3_toggleWall_15 rfl 0 rfl ?_
    refine get_0_0 (pc := 16) w_154 dX3_toggleWall_16 ?_
    refine J_iload_n (pc := 19) dX3_toggleWall_19 rfl 1 rfl ?_
    obtain ⟨v11, M12, hc13, h⟩ := obind2_e h
    refine J_callV (g := mi_X1_turnWall) (ci := 1) (pc := 20) [.int a1] [] mv_X1_turnWall w_719 (k_X1_turnWall  a1 _ hc13) rfl (by decide) rfl rfl rfl ⟨⟨Nat.le_of_ble_eq_true rfl, Nat.le_of_ble_eq_true rfl⟩, Nat.le_of_ble_eq_true rfl, Nat.le_of_ble_eq_true rfl⟩ (Nat.le_of_ble_eq_true rfl) dX3_toggleWall_20 (Jk_v rfl rfl fun hok14 => ?_)
    cases h
    refine J_wide (k' := 1) (n' := 6) (Nat.le_of_ble_eq_true rfl) (Nat.le_of_ble_eq_true rfl) ?_
    exact J_zreturn dX3_toggleWall_23 rfl (okB_b hok14) rfl rfl rfl rfl
  · cases h
    refine J_callS (g := mi_X3_refuse) (pc := 8) [.int v1] [] ms_X3_refuse w_448 (k_X3_refuse v1 _ hc6) rfl rfl ⟨⟨Nat.le_of_ble_eq_true rfl, Nat.le_of_ble_eq_true rfl⟩, Nat.le_of_ble_eq_true rfl, Nat.le_of_ble_eq_true rfl⟩ (Nat.le_of_ble_eq_true rfl) dX3_toggleWall_8 (Jk_out rfl rfl rfl ⟨⟨Nat.le_of_ble_eq_true rfl, Nat.le_of_ble_eq_true rfl⟩, Nat.le_of_ble_eq_true rfl, Nat.le_of_ble_eq_true rfl⟩)
set_option maxHeartbeats 4000000 in
set_option maxRecDepth 100000 in
theorem k_X3_slide {E : En} (a1 : Int32) (a2 : Int32) (M : Wd) {r : Int32 ⊕ Nat} {M' : Wd} (h : F_X3_slide a1 a2 M = some (r, M')) : Con E mi_X3_slide [.ref 0, .int a1, .int a2] M (ocI r) M' := by
  unfold F_X3_slide at h
  refine Con.of (by decide) rfl (Nat.le_of_ble_eq_true rfl) (fun κ => ?_)
  show J κ E mi_X3_slide _ 0 0 [(0, .ref 0), (1, .int a1), (2, .int a2)] M 0 []
  refine J_aload_n (pc := 0) dX3_slide_0 rfl 0 rfl ?_
  refine get_0_0 (pc := 1) w_154 dX3_slide_1 ?_
  refine J_iload_n (pc := 4) dX3_slide_4 rfl 1 rfl ?_
  refine J_iload_n (pc := 5) dX3_slide_5 rfl 2 rfl ?_
  obtain ⟨v1, hc2, h⟩ := obind_e h
  refine J_callV (g := mi_X1_troubleOfSliding) (ci := 1) (pc := 6) [.int a1, .int a2] [] mv_X1_troubleOfSliding w_595 (k_X1_troubleOfSliding  a1 a2 _ hc2) rfl (by decide) rfl rfl rfl ⟨⟨Nat.le_of_ble_eq_true rfl, Nat.le_of_ble_eq_true rfl⟩, Nat.le_of_ble_eq_true rfl, Nat.le_of_ble_eq_true rfl⟩ (Nat.le_of_ble_eq_true rfl) dX3_slide_6 (Jk_v rfl rfl fun hok3 => ?_)
  rcases obindX_e h with ⟨v4, M5, hc6, h⟩ | ⟨x8, M5, hc6, h⟩
  · refine J_callS (g := mi_X3_refuse) (pc := 9) [.int v1] [] ms_X3_refuse w_448 (k_X3_refuse v1 _ hc6) rfl rfl ⟨⟨Nat.le_of_ble_eq_true rfl, Nat.le_of_ble_eq_true rfl⟩, Nat.le_of_ble_eq_true rfl, Nat.le_of_ble_eq_true rfl⟩ (Nat.le_of_ble_eq_true rfl) dX3_slide_9 (Jk_0k 1 6 rfl rfl ?_)
    refine J_aload_n (pc := 12) dX3_slide_12 rfl 0 rfl ?_
    refine get_0_0 (pc := 13) w_154 dX3_slide_13 ?_
    refine get_1_7 (pc := 16) w_65 dX3_slide_16 ?_
    refine J_bipush (v := (60 : Int32)) (pc := 19) dX3_slide_19 (by decide) ?_
    refine J_icmp_lt (pc := 21) (tgt := 34) dX3_slide_21 (by decide) (fun c9 => ?_) (fun c9 => ?_)
    · replace h := ifp c9 h
      refine J_aload_n (pc := 34) dX3_slide_34 rfl 0 rfl ?_
      obtain ⟨M10, hc11, h⟩ := obind_e h
      refine J_callV (g := mi_X3_save) (ci := 3) (pc := 35) [] [] mv_X3_save w_551 (k_X3_save _ hc11) rfl (by decide) rfl rfl rfl ⟨⟨Nat.le_of_ble_eq_true rfl, Nat.le_of_ble_eq_true rfl⟩, Nat.le_of_ble_eq_true rfl, Nat.le_of_ble_eq_true rfl⟩ (Nat.le_of_ble_eq_true rfl) dX3_slide_35 (Jk_0 rfl rfl ?_)
      refine J_aload_n (pc := 38) dX3_slide_38 rfl 0 rfl ?_
      refine get_0_0 (pc := 39) w_154 dX3_slide_39 ?_
      refine J_iload_n (pc := 42) dX3_slide_42 rfl 1 rfl ?_
      refine J_iload_n (pc := 43) dX3_slide_43 rfl 2 rfl ?_
      obtain ⟨v12, M13, hc14, h⟩ := obind2_e h
      refine J_callV (g := mi_X1_makeSlide) (ci := 1) (pc := 44) [.int a1, .int a2] [] mv_X1_makeSlide w_601 (k_X1_makeSlide  a1 a2 _ hc14) rfl (by decide) rfl rfl rfl ⟨⟨Nat.le_of_ble_eq_true rfl, Nat.le_of_ble_eq_true rfl⟩, Nat.le_of_ble_eq_true rfl, Nat.le_of_ble_eq_true rfl⟩ (Nat.le_of_ble_eq_true rfl) dX3_slide_44 (Jk_v rfl rfl fun hok15 => ?_)
      cases h
      refine J_wide (k' := 2) (n' := 12) (Nat.le_of_ble_eq_true rfl) (Nat.le_of_ble_eq_true rfl) ?_
      exact J_ireturn dX3_slide_47 rfl rfl rfl rfl rfl
    · replace h := ifn c9 h
      cases h
      exact J_throwS (pc := 24) (text := "the log is full") rfl rfl rfl (by decide +kernel) w_535 w_29 (by decide) ats_RX3_66 dX3_slide_24 dX3_slide_27 dX3_slide_28 dX3_slide_30 dX3_slide_33 ⟨⟨Nat.le_of_ble_eq_true rfl, Nat.le_of_ble_eq_true rfl⟩, Nat.le_of_ble_eq_true rfl, Nat.le_of_ble_eq_true rfl⟩
  · cases h
    refine J_callS (g := mi_X3_refuse) (pc := 9) [.int v1] [] ms_X3_refuse w_448 (k_X3_refuse v1 _ hc6) rfl rfl ⟨⟨Nat.le_of_ble_eq_true rfl, Nat.le_of_ble_eq_true rfl⟩, Nat.le_of_ble_eq_true rfl, Nat.le_of_ble_eq_true rfl⟩ (Nat.le_of_ble_eq_true rfl) dX3_slide_9 (Jk_out rfl rfl rfl ⟨⟨Nat.le_of_ble_eq_true rfl, Nat.le_of_ble_eq_true rfl⟩, Nat.le_of_ble_eq_true rfl, Nat.le_of_ble_eq_true rfl⟩)
set_option maxHeartbeats 4000000 in
set_option maxRecDepth 100000 in
theorem k_X3_takeBack {E : En} (M : Wd) {r : Int32 ⊕ Nat} {M' : Wd} (h : F_X3_takeBack M = some (r, M')) : Con E mi_X3_takeBack [.ref 0] M (ocI r) M' := by
  unfold F_X3_takeBack at h
  refine Con.of (by decide) rfl (Nat.le_of_ble_eq_true rfl) (fun κ => ?_)
  show J κ E mi_X3_takeBack _ 0 0 [(0, .ref 0)] M 0 []
  refine J_aload_n (pc := 0) dX3_takeBack_0 rfl 0 rfl ?_
  refine get_0_0 (pc := 1) w_154 dX3_takeBack_1 ?_
  refine get_1_7 (pc := 4) w_65 dX3_takeBack_4 ?_
  refine J_if_ne (pc := 7) (tgt := 20) dX3_takeBack_7 (by decide) (fun c1 => ?_) (fun c1 => ?_)
  · replace h := ifn c1 h
    refine J_aload_n (pc := 20) dX3_takeBack_20 rfl 0 rfl ?_
    obtain ⟨M2, hc3, h⟩ := obind_e h
    refine J_callV (g := mi_X3_save) (ci := 3) (pc := 21) [] [] mv_X3_save w_551 (k_X3_save _ hc3) rfl (by decide) rfl rfl rfl ⟨⟨Nat.le_of_ble_eq_true rfl, Nat.le_of_ble_eq_true rfl⟩, Nat.le_of_ble_eq_true rfl, Nat.le_of_ble_eq_true rfl⟩ (Nat.le_of_ble_eq_true rfl) dX3_takeBack_21 (Jk_0 rfl rfl ?_)
    refine J_aload_n (pc := 24) dX3_takeBack_24 rfl 0 rfl ?_
    refine get_0_0 (pc := 25) w_154 dX3_takeBack_25 ?_
    obtain ⟨v4, M5, hc6, h⟩ := obind2_e h
    refine J_callV (g := mi_X1_unmakeSlide) (ci := 1) (pc := 28) [] [] mv_X1_unmakeSlide w_613 (k_X1_unmakeSlide  _ hc6) rfl (by decide) rfl rfl rfl ⟨⟨Nat.le_of_ble_eq_true rfl, Nat.le_of_ble_eq_true rfl⟩, Nat.le_of_ble_eq_true rfl, Nat.le_of_ble_eq_true rfl⟩ (Nat.le_of_ble_eq_true rfl) dX3_takeBack_28 (Jk_v rfl rfl fun hok7 => ?_)
    cases h
    refine J_wide (k' := 1) (n' := 6) (Nat.le_of_ble_eq_true rfl) (Nat.le_of_ble_eq_true rfl) ?_
    exact J_ireturn dX3_takeBack_31 rfl rfl rfl rfl rfl
  · replace h := ifp c1 h
    cases h
    exact J_throwS (pc := 10) (text := "the log is empty") rfl rfl rfl (by decide +kernel) w_535 w_29 (by decide) ats_RX3_66 dX3_takeBack_10 dX3_takeBack_13 dX3_takeBack_14 dX3_takeBack_16 dX3_takeBack_19 ⟨⟨Nat.le_of_ble_eq_true rfl, Nat.le_of_ble_eq_true rfl⟩, Nat.le_of_ble_eq_true rfl, Nat.le_of_ble_eq_true rfl⟩
set_option maxHeartbeats 4000000 in
set_option maxRecDepth 100000 in
theorem kL_X3_rewind_L6 {κ : Kx} {E : En} {Q : State → Prop} {ρ : Type} {r : ρ} (K36 : Int32 → Wd → Option ρ) (hK36 : ∀ (x1 : Int32) (M : Wd), K36 x1 M = some r → J κ E mi_X3_rewind Q 0 0 [(1, .int x1)] M 36 []) : ∀ (m : Nat) (x1 : Int32) (M : Wd), F_X3_rewind_L6 K36 m x1 M = some r → J κ E mi_X3_rewind Q 0 0 [(0, .ref 0), (1, .int x1)] M 6 [] := by
  intro m
  induction m with
  | zero => intro x1 M h; exact (nomatch (show (none : Option ρ) = some r from h))
  | succ m ih =>
    intro x1 M h
    unfold F_X3_rewind_L6 at h
    refine J_iload_n (pc := 6) dX3_rewind_6 rfl 1 rfl ?_
    refine J_bipush (v := (60 : Int32)) (pc := 7) dX3_rewind_7 (by decide) ?_
    refine J_icmp_ge (pc := 9) (tgt := 36) dX3_rewind_9 (by decide) (fun c3 => ?_) (fun c3 => ?_)
    · replace h := ifp c3 h
      refine J_sub [1] rfl ?_
      exact hK36 _ _ h
    · replace h := ifn c3 h
      refine J_aload_n (pc := 12) dX3_rewind_12 rfl 0 rfl ?_
      refine get_0_0 (pc := 13) w_154 dX3_rewind_13 ?_
      refine get_1_7 (pc := 16) w_65 dX3_rewind_16 ?_
      refine J_if_le (pc := 19) (tgt := 36) dX3_rewind_19 (by decide) (fun c4 => ?_) (fun c4 => ?_)
      · replace h := ifp c4 h
        refine J_sub [1] rfl ?_
        exact hK36 _ _ h
      · replace h := ifn c4 h
        refine J_aload_n (pc := 22) dX3_rewind_22 rfl 0 rfl ?_
        refine get_0_0 (pc := 23) w_154 dX3_rewind_23 ?_
        obtain ⟨v5, M6, hc7, h⟩ := obind2_e h
        refine J_callV (g := mi_X1_unmakeSlide) (ci := 1) (pc := 26) [] [] mv_X1_unmakeSlide w_613 (k_X1_unmakeSlide  _ hc7) rfl (by decide) rfl rfl rfl ⟨⟨Nat.le_of_ble_eq_true rfl, Nat.le_of_ble_eq_true rfl⟩, Nat.le_of_ble_eq_true rfl, Nat.le_of_ble_eq_true rfl⟩ (Nat.le_of_ble_eq_true rfl) dX3_rewind_26 (Jk_v rfl rfl fun hok8 => ?_)
        refine J_pop (pc := 29) dX3_rewind_29 rfl ?_
        obtain ⟨v9, e10, h⟩ := bnd_e h
        refine J_iinc (v := v9) (pc := 30) dX3_rewind_30 1 rfl (by rw [e10]; rfl) (Nat.le_of_ble_eq_true rfl) [1, 0] rfl ?_
        refine J_goto (pc := 33) (tgt := 6) dX3_rewind_33 (by decide) ?_
        exact ih _ _ h
set_option maxHeartbeats 4000000 in
set_option maxRecDepth 100000 in
theorem k_X3_rewind {E : En} (M : Wd) {r : Int32} {M' : Wd} (h : F_X3_rewind M = some (r, M')) : Con E mi_X3_rewind [.ref 0] M (.inl (some (.int r))) M' := by
  unfold F_X3_rewind at h
  refine Con.of (by decide) rfl (Nat.le_of_ble_eq_true rfl) (fun κ => ?_)
  show J κ E mi_X3_rewind _ 0 0 [(0, .ref 0)] M 0 []
  refine J_aload_n (pc := 0) dX3_rewind_0 rfl 0 rfl ?_
  obtain ⟨M1, hc2, h⟩ := obind_e h
  refine J_callV (g := mi_X3_save) (ci := 3) (pc := 1) [] [] mv_X3_save w_551 (k_X3_save _ hc2) rfl (by decide) rfl rfl rfl ⟨⟨Nat.le_of_ble_eq_true rfl, Nat.le_of_ble_eq_true rfl⟩, Nat.le_of_ble_eq_true rfl, Nat.le_of_ble_eq_true rfl⟩ (Nat.le_of_ble_eq_true rfl) dX3_rewind_1 (Jk_0 rfl rfl ?_)
  refine J_iconst (v := (0 : Int32)) (pc := 4) dX3_rewind_4 (by decide) ?_
  refine J_istore_n (pc := 5) dX3_rewind_5 rfl (Nat.le_of_ble_eq_true rfl) [1, 0] rfl ?_
  refine kL_X3_rewind_L6 _ (fun v11 M12 h => ?_) fuelN _ _ h
  refine J_iload_n (pc := 36) dX3_rewind_36 rfl 0 rfl ?_
  cases h
  exact J_ireturn dX3_rewind_37 rfl rfl rfl rfl rfl
set_option maxHeartbeats 4000000 in
set_option maxRecDepth 100000 in
theorem kL_X3_makePlan_L10 {κ : Kx} {E : En} {Q : State → Prop} {ρ : Type} {r : ρ} (a1 : Int32) (K75 : Wd → Option ρ) (hK75 : ∀ (M : Wd), K75 M = some r → J κ E mi_X3_makePlan Q 0 0 [(1, .int a1)] M 75 []) : ∀ (m : Nat) (x2 : Int32) (x3 : Int32) (M : Wd), F_X3_makePlan_L10 a1 K75 m x2 x3 M = some r → J κ E mi_X3_makePlan Q 0 0 [(0, .ref 0), (1, .int a1), (2, .int x2), (3, .int x3)] M 10 [] := by
  intro m
  induction m with
  | zero => intro x2 x3 M h; exact (nomatch (show (none : Option ρ) = some r from h))
  | succ m ih =>
    intro x2 x3 M h
    unfold F_X3_makePlan_L10 at h
    refine J_iload_n (pc := 10) dX3_makePlan_10 rfl 3 rfl ?_
    refine J_iload_n (pc := 11) dX3_makePlan_11 rfl 1 rfl ?_
    refine J_icmp_ge (pc := 12) (tgt := 75) dX3_makePlan_12 (by decide) (fun c3 => ?_) (fun c3 => ?_)
    · replace h := ifp c3 h
      refine J_sub [1] rfl ?_
      exact hK75 _ h
    · replace h := ifn c3 h
      refine J_aload_n (pc := 15) dX3_makePlan_15 rfl 0 rfl ?_
      refine get_0_3 (pc := 16) w_157 dX3_makePlan_16 ?_
      refine J_iload_n (pc := 19) dX3_makePlan_19 rfl 2 rfl ?_
      obtain ⟨v4, M5, hc6, h⟩ := obind2_e h
      refine J_callV (g := mi_X0_findNextSlide) (ci := 0) (pc := 20) [.int x2] [] mv_X0_findNextSlide w_637 (k_X0_findNextSlide  x2 _ hc6) rfl (by decide) rfl rfl rfl ⟨⟨Nat.le_of_ble_eq_true rfl, Nat.le_of_ble_eq_true rfl⟩, Nat.le_of_ble_eq_true rfl, Nat.le_of_ble_eq_true rfl⟩ (Nat.le_of_ble_eq_true rfl) dX3_makePlan_20 (Jk_v rfl rfl fun hok7 => ?_)
      refine J_if_eq (pc := 23) (tgt := 75) dX3_makePlan_23 (by decide) (fun c8 => ?_) (fun c8 => ?_)
      · replace h := ifp c8 h
        refine J_sub [1] rfl ?_
        exact hK75 _ h
      · replace h := ifn c8 h
        refine J_aload_n (pc := 26) dX3_makePlan_26 rfl 0 rfl ?_
        refine get_0_3 (pc := 27) w_157 dX3_makePlan_27 ?_
        refine get_44_10 (pc := 30) w_112 dX3_makePlan_30 ?_
        obtain ⟨v9, e10, h⟩ := bnd_e h
        refine J_topi e10 ?_
        refine J_istore (pc := 33) dX3_makePlan_33 (Nat.le_of_ble_eq_true rfl) [1, 2, 3, 4, 0] rfl ?_
        refine J_aload_n (pc := 35) dX3_makePlan_35 rfl 0 rfl ?_
        refine get_0_3 (pc := 36) w_157 dX3_makePlan_36 ?_
        refine get_44_11 (pc := 39) w_114 dX3_makePlan_39 ?_
        obtain ⟨v11, e12, h⟩ := bnd_e h
        refine J_topi e12 ?_
        refine J_istore (pc := 42) dX3_makePlan_42 (Nat.le_of_ble_eq_true rfl) [1, 2, 3, 4, 5, 0] rfl ?_
        refine J_LS [(0, .ref 0), (1, .int a1), (2, .int x2), (3, .int x3), (4, .int v9), (5, .int v11)] [] rfl rfl ?_
        refine J_aload_n (pc := 44) dX3_makePlan_44 rfl 0 rfl ?_
        refine get_0_0 (pc := 45) w_154 dX3_makePlan_45 ?_
        refine J_iload (pc := 48) dX3_makePlan_48 4 rfl ?_
        refine J_iload (pc := 50) dX3_makePlan_50 5 rfl ?_
        obtain ⟨v13, M14, hc15, h⟩ := obind2_e h
        refine J_callV (g := mi_X1_makeSlide) (ci := 1) (pc := 52) [.int v9, .int v11] [] mv_X1_makeSlide w_601 (k_X1_makeSlide  v9 v11 _ hc15) rfl (by decide) rfl rfl rfl ⟨⟨Nat.le_of_ble_eq_true rfl, Nat.le_of_ble_eq_true rfl⟩, Nat.le_of_ble_eq_true rfl, Nat.le_of_ble_eq_true rfl⟩ (Nat.le_of_ble_eq_true rfl) dX3_makePlan_52 (Jk_v rfl rfl fun hok16 => ?_)
        refine J_pop (pc := 55) dX3_makePlan_55 rfl ?_
        refine J_aload_n (pc := 56) dX3_makePlan_56 rfl 0 rfl ?_
        refine get_0_3 (pc := 57) w_157 dX3_makePlan_57 ?_
        refine J_iload_n (pc := 60) dX3_makePlan_60 rfl 2 rfl ?_
        refine J_iload (pc := 61) dX3_makePlan_61 4 rfl ?_
        refine J_iload (pc := 63) dX3_makePlan_63 5 rfl ?_
        obtain ⟨v17, hc18, h⟩ := obind_e h
        refine J_callV (g := mi_X0_behindSlide) (ci := 0) (pc := 65) [.int x2, .int v9, .int v11] [] mv_X0_behindSlide w_646 (k_X0_behindSlide  x2 v9 v11 _ hc18) rfl (by decide) rfl rfl rfl ⟨⟨Nat.le_of_ble_eq_true rfl, Nat.le_of_ble_eq_true rfl⟩, Nat.le_of_ble_eq_true rfl, Nat.le_of_ble_eq_true rfl⟩ (Nat.le_of_ble_eq_true rfl) dX3_makePlan_65 (Jk_v rfl rfl fun hok19 => ?_)
        refine J_istore_n (pc := 68) dX3_makePlan_68 rfl (Nat.le_of_ble_eq_true rfl) [1, 2, 0, 3, 4, 5] rfl ?_
        obtain ⟨v20, e21, h⟩ := bnd_e h
        refine J_iinc (v := v20) (pc := 69) dX3_makePlan_69 3 rfl (by rw [e21]; rfl) (Nat.le_of_ble_eq_true rfl) [1, 2, 3, 0, 4, 5] rfl ?_
        refine J_LS [(0, .ref 0), (1, .int a1), (2, .int v17), (3, .int v20), (4, .int v9), (5, .int v11)] [] rfl rfl ?_
        refine J_goto (pc := 72) (tgt := 10) dX3_makePlan_72 (by decide) ?_
        refine J_sub [0, 1, 2, 3] rfl ?_
        exact ih _ _ _ h
set_option maxHeartbeats 4000000 in
set_option maxRecDepth 100000 in
theorem k_X3_makePlan {E : En} (a1 : Int32) (M : Wd) {r : Int32} {M' : Wd} (h : F_X3_makePlan a1 M = some (r, M')) : Con E mi_X3_makePlan [.ref 0, .int a1] M (.inl (some (.int r))) M' := by
  unfold F_X3_makePlan at h
  refine Con.of (by decide) rfl (Nat.le_of_ble_eq_true rfl) (fun κ => ?_)
  show J κ E mi_X3_makePlan _ 0 0 [(0, .ref 0), (1, .int a1)] M 0 []
  refine J_aload_n (pc := 0) dX3_makePlan_0 rfl 0 rfl ?_
  refine get_0_3 (pc := 1) w_157 dX3_makePlan_1 ?_
  refine get_44_8 (pc := 4) w_108 dX3_makePlan_4 ?_
  obtain ⟨v1, e2, h⟩ := bnd_e h
  refine J_topi e2 ?_
  refine J_istore_n (pc := 7) dX3_makePlan_7 rfl (Nat.le_of_ble_eq_true rfl) [1, 2, 0] rfl ?_
  refine J_iconst (v := (0 : Int32)) (pc := 8) dX3_makePlan_8 (by decide) ?_
  refine J_istore_n (pc := 9) dX3_makePlan_9 rfl (Nat.le_of_ble_eq_true rfl) [1, 2, 3, 0] rfl ?_
  refine J_LS [(0, .ref 0), (1, .int a1), (2, .int v1), (3, .int (0 : Int32))] [] rfl rfl ?_
  refine kL_X3_makePlan_L10 _ _ (fun M22 h => ?_) fuelN _ _ _ h
  refine J_iload_n (pc := 75) dX3_makePlan_75 rfl 0 rfl ?_
  refine J_if_lt (pc := 76) (tgt := 83) dX3_makePlan_76 (by decide) (fun c23 => ?_) (fun c23 => ?_)
  · replace h := ifp c23 h
    refine J_iconst (v := (0 : Int32)) (pc := 83) dX3_makePlan_83 (by decide) ?_
    cases h
    exact J_zreturn dX3_makePlan_84 rfl (Or.inl rfl) rfl rfl rfl rfl
  · replace h := ifn c23 h
    refine J_iconst (v := (1 : Int32)) (pc := 79) dX3_makePlan_79 (by decide) ?_
    refine J_goto (pc := 80) (tgt := 84) dX3_makePlan_80 (by decide) ?_
    cases h
    exact J_zreturn dX3_makePlan_84 rfl (Or.inr rfl) rfl rfl rfl rfl

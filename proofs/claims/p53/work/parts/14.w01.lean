/-! ===== walks of the methods, 1 ===== -/
set_option maxHeartbeats 4000000 in
set_option maxRecDepth 100000 in
theorem k_X0_together {E : En} (a0 : Int32) (a1 : Int32) (M : Wd) : Con E mi_X0_together [.int a0, .int a1] M (.inl (some (.int (F_X0_together a0 a1)))) M := by
  obtain ⟨r, h⟩ : ∃ r, F_X0_together a0 a1 = r := ⟨_, rfl⟩
  rw [h]
  unfold F_X0_together at h
  refine Con.of (by decide) rfl (Nat.le_of_ble_eq_true rfl) (fun κ => ?_)
  show J κ E mi_X0_together _ 0 0 [(0, .int a0), (1, .int a1)] M 0 []
  refine J_iload_n (pc := 0) dX0_together_0 rfl 0 rfl ?_
  refine J_iconst (v := (-1 : Int32)) (pc := 1) dX0_together_1 (by decide) ?_
  obtain ⟨v1, e2, h⟩ := bnd_e h
  have hb6 : isB v1 := by rw [e2]; repeat (first | exact Or.inl rfl | exact Or.inr rfl | assumption | exact okB_b (by assumption) | apply isB_ite)
  refine J_join [(0, .int a0), (1, .int a1)] M 21 [.int v1] ?_ (fun hJ => ?_)
  · refine J_istore_n (pc := 21) dX0_together_21 rfl (Nat.le_of_ble_eq_true rfl) [1, 2, 0] rfl ?_
    refine J_iload_n (pc := 22) dX0_together_22 rfl 2 rfl ?_
    refine J_if_eq (pc := 23) (tgt := 32) dX0_together_23 (by decide) (fun c7 => ?_) (fun c7 => ?_)
    · replace h := ifp c7 h
      refine J_iconst (v := (-1 : Int32)) (pc := 32) dX0_together_32 (by decide) ?_
      subst h
      exact J_ireturn dX0_together_33 rfl rfl rfl rfl rfl
    · replace h := ifn c7 h
      refine J_iload_n (pc := 26) dX0_together_26 rfl 0 rfl ?_
      refine J_iload_n (pc := 27) dX0_together_27 rfl 1 rfl ?_
      refine J_ior (pc := 28) dX0_together_28 ?_
      refine J_goto (pc := 29) (tgt := 33) dX0_together_29 (by decide) ?_
      subst h
      exact J_ireturn dX0_together_33 rfl rfl rfl rfl rfl
  · refine J_icmp_eq (pc := 2) (tgt := 20) dX0_together_2 (by decide) (fun c3 => ?_) (fun c3 => ?_)
    · refine J_iconst (v := (0 : Int32)) (pc := 20) dX0_together_20 (by decide) ?_
      refine J_topi (y := v1) (by rw [e2, if_pos c3]) ?_
      exact hJ
    · refine J_iload_n (pc := 5) dX0_together_5 rfl 1 rfl ?_
      refine J_iconst (v := (-1 : Int32)) (pc := 6) dX0_together_6 (by decide) ?_
      refine J_icmp_eq (pc := 7) (tgt := 20) dX0_together_7 (by decide) (fun c4 => ?_) (fun c4 => ?_)
      · refine J_iconst (v := (0 : Int32)) (pc := 20) dX0_together_20 (by decide) ?_
        refine J_topi (y := v1) (by rw [e2, if_neg c3, if_pos c4]) ?_
        exact hJ
      · refine J_iload_n (pc := 10) dX0_together_10 rfl 0 rfl ?_
        refine J_iload_n (pc := 11) dX0_together_11 rfl 1 rfl ?_
        refine J_iand (pc := 12) dX0_together_12 ?_
        refine J_if_ne (pc := 13) (tgt := 20) dX0_together_13 (by decide) (fun c5 => ?_) (fun c5 => ?_)
        · refine J_iconst (v := (0 : Int32)) (pc := 20) dX0_together_20 (by decide) ?_
          refine J_topi (y := v1) (by rw [e2, if_neg c3, if_neg c4, if_neg c5]) ?_
          exact hJ
        · refine J_iconst (v := (1 : Int32)) (pc := 16) dX0_together_16 (by decide) ?_
          refine J_goto (pc := 17) (tgt := 21) dX0_together_17 (by decide) ?_
          refine J_topi (y := v1) (by rw [e2, if_neg c3, if_neg c4, if_pos c5]) ?_
          exact hJ
set_option maxHeartbeats 4000000 in
set_option maxRecDepth 100000 in
theorem k_X3_cellsOf {E : En} (a0 : Int32) (a1 : Int32) (a2 : Int32) (M : Wd) : Con E mi_X3_cellsOf [.int a0, .int a1, .int a2] M (.inl (some (.int (F_X3_cellsOf a0 a1 a2)))) M := by
  obtain ⟨r, h⟩ : ∃ r, F_X3_cellsOf a0 a1 a2 = r := ⟨_, rfl⟩
  rw [h]
  unfold F_X3_cellsOf at h
  refine Con.of (by decide) rfl (Nat.le_of_ble_eq_true rfl) (fun κ => ?_)
  show J κ E mi_X3_cellsOf _ 0 0 [(0, .int a0), (1, .int a1), (2, .int a2)] M 0 []
  refine J_iload_n (pc := 0) dX3_cellsOf_0 rfl 0 rfl ?_
  refine J_iconst (v := (5 : Int32)) (pc := 1) dX3_cellsOf_1 (by decide) ?_
  refine J_icmp_ge (pc := 2) (tgt := 17) dX3_cellsOf_2 (by decide) (fun c1 => ?_) (fun c1 => ?_)
  · replace h := ifp c1 h
    refine J_ldcw (pc := 17) w_210 dX3_cellsOf_17 ?_
    refine J_iconst (v := (1 : Int32)) (pc := 20) dX3_cellsOf_20 (by decide) ?_
    refine J_iconst (v := (5 : Int32)) (pc := 21) dX3_cellsOf_21 (by decide) ?_
    refine J_iload_n (pc := 22) dX3_cellsOf_22 rfl 2 rfl ?_
    refine J_imul (pc := 23) dX3_cellsOf_23 ?_
    refine J_ishl (pc := 24) dX3_cellsOf_24 ?_
    refine J_iconst (v := (1 : Int32)) (pc := 25) dX3_cellsOf_25 (by decide) ?_
    refine J_isub (pc := 26) dX3_cellsOf_26 ?_
    refine J_iand (pc := 27) dX3_cellsOf_27 ?_
    refine J_iconst (v := (5 : Int32)) (pc := 28) dX3_cellsOf_28 (by decide) ?_
    refine J_iload_n (pc := 29) dX3_cellsOf_29 rfl 1 rfl ?_
    refine J_imul (pc := 30) dX3_cellsOf_30 ?_
    refine J_iload_n (pc := 31) dX3_cellsOf_31 rfl 0 rfl ?_
    refine J_iadd (pc := 32) dX3_cellsOf_32 ?_
    refine J_iconst (v := (5 : Int32)) (pc := 33) dX3_cellsOf_33 (by decide) ?_
    refine J_isub (pc := 34) dX3_cellsOf_34 ?_
    refine J_ishl (pc := 35) dX3_cellsOf_35 ?_
    subst h
    exact J_ireturn dX3_cellsOf_36 rfl rfl rfl rfl rfl
  · replace h := ifn c1 h
    refine J_iconst (v := (1 : Int32)) (pc := 5) dX3_cellsOf_5 (by decide) ?_
    refine J_iload_n (pc := 6) dX3_cellsOf_6 rfl 2 rfl ?_
    refine J_ishl (pc := 7) dX3_cellsOf_7 ?_
    refine J_iconst (v := (1 : Int32)) (pc := 8) dX3_cellsOf_8 (by decide) ?_
    refine J_isub (pc := 9) dX3_cellsOf_9 ?_
    refine J_iconst (v := (5 : Int32)) (pc := 10) dX3_cellsOf_10 (by decide) ?_
    refine J_iload_n (pc := 11) dX3_cellsOf_11 rfl 0 rfl ?_
    refine J_imul (pc := 12) dX3_cellsOf_12 ?_
    refine J_iload_n (pc := 13) dX3_cellsOf_13 rfl 1 rfl ?_
    refine J_iadd (pc := 14) dX3_cellsOf_14 ?_
    refine J_ishl (pc := 15) dX3_cellsOf_15 ?_
    subst h
    exact J_ireturn dX3_cellsOf_16 rfl rfl rfl rfl rfl
set_option maxHeartbeats 4000000 in
set_option maxRecDepth 100000 in
theorem kL_X0_addToTable_L37 {κ : Kx} {E : En} {Q : State → Prop} {ρ : Type} {r : ρ} (a1 : Int32) (a2 : Int32) (a3 : Int32) (a4 : Int32) (a5 : Int32) (K86 : Wd → Option ρ) (hK86 : ∀ (M : Wd), K86 M = some r → J κ E mi_X0_addToTable Q 0 0 [(0, .ref 44), (1, .int a1), (2, .int a2), (3, .int a3), (4, .int a4)] M 86 []) : ∀ (m : Nat) (x6 : Int32) (M : Wd), F_X0_addToTable_L37 a1 a2 a3 a4 a5 K86 m x6 M = some r → J κ E mi_X0_addToTable Q 0 0 [(0, .ref 44), (1, .int a1), (2, .int a2), (3, .int a3), (4, .int a4), (5, .int a5), (6, .int x6)] M 37 [] := by
  intro m
  induction m with
  | zero => intro x6 M h; exact (nomatch (show (none : Option ρ) = some r from h))
  | succ m ih =>
    intro x6 M h
    unfold F_X0_addToTable_L37 at h
    refine J_iload (pc := 37) dX0_addToTable_37 6 rfl ?_
    refine J_iload_n (pc := 39) dX0_addToTable_39 rfl 3 rfl ?_
    refine J_icmp_ge (pc := 40) (tgt := 86) dX0_addToTable_40 (by decide) (fun c8 => ?_) (fun c8 => ?_)
    · replace h := ifp c8 h
      refine J_sub [0, 1, 2, 3, 4] rfl ?_
      exact hK86 _ h
    · replace h := ifn c8 h
      refine J_iload_n (pc := 43) dX0_addToTable_43 rfl 3 rfl ?_
      refine J_iload (pc := 44) dX0_addToTable_44 4 rfl ?_
      refine J_imul (pc := 46) dX0_addToTable_46 ?_
      refine J_iload (pc := 47) dX0_addToTable_47 6 rfl ?_
      refine J_iadd (pc := 49) dX0_addToTable_49 ?_
      refine J_sipush (v := (4096 : Int32)) (pc := 50) dX0_addToTable_50 (by decide) ?_
      refine J_icmp_ge (pc := 53) (tgt := 86) dX0_addToTable_53 (by decide) (fun c9 => ?_) (fun c9 => ?_)
      · replace h := ifp c9 h
        refine J_sub [0, 1, 2, 3, 4] rfl ?_
        exact hK86 _ h
      · replace h := ifn c9 h
        refine J_aload_n (pc := 56) dX0_addToTable_56 rfl 0 rfl ?_
        refine get_44_1 (pc := 57) w_100 dX0_addToTable_57 ?_
        refine J_iload_n (pc := 60) dX0_addToTable_60 rfl 3 rfl ?_
        refine J_iload (pc := 61) dX0_addToTable_61 4 rfl ?_
        refine J_imul (pc := 63) dX0_addToTable_63 ?_
        refine J_iload (pc := 64) dX0_addToTable_64 6 rfl ?_
        refine J_iadd (pc := 66) dX0_addToTable_66 ?_
        refine J_aload_n (pc := 67) dX0_addToTable_67 rfl 0 rfl ?_
        refine get_44_1 (pc := 68) w_100 dX0_addToTable_68 ?_
        refine J_iload (pc := 71) dX0_addToTable_71 6 rfl ?_
        obtain ⟨v10, e11, hk12, h⟩ := ldi_e h
        refine J_iald (c := 46) (N := 4096) (pc := 73) ja_46 (Nat.le_of_ble_eq_true rfl) hk12 dX0_addToTable_73 ?_
        refine J_topi e11 ?_
        refine J_iload (pc := 74) dX0_addToTable_74 5 rfl ?_
        refine J_callS (g := mi_X0_together) (pc := 76) [.int v10, .int a5] [.int ((a3 * a4) + x6), .ref 46] ms_X0_together w_269 (k_X0_together  v10 a5 _) rfl rfl ⟨⟨Nat.le_of_ble_eq_true rfl, Nat.le_of_ble_eq_true rfl⟩, Nat.le_of_ble_eq_true rfl, Nat.le_of_ble_eq_true rfl⟩ (Nat.le_of_ble_eq_true rfl) dX0_addToTable_76 (Jk_v rfl rfl fun hok13 => ?_)
        obtain ⟨hk14, h⟩ := inb_e h
        refine J_iast (c := 46) (N := 4096) (pc := 79) (fun _ => ja_46) (Nat.le_of_ble_eq_true rfl) hk14 dX0_addToTable_79 ?_
        obtain ⟨v15, e16, h⟩ := bnd_e h
        refine J_iinc (v := v15) (pc := 80) dX0_addToTable_80 6 rfl (by rw [e16]; rfl) (Nat.le_of_ble_eq_true rfl) [1, 2, 3, 4, 5, 6, 0] rfl ?_
        refine J_goto (pc := 83) (tgt := 37) dX0_addToTable_83 (by decide) ?_
        exact ih _ _ h
set_option maxHeartbeats 4000000 in
set_option maxRecDepth 100000 in
theorem kL_X0_addToTable_L8 {κ : Kx} {E : En} {Q : State → Prop} {ρ : Type} {r : ρ} (a1 : Int32) (a2 : Int32) (a3 : Int32) (K92 : Wd → Option ρ) (hK92 : ∀ (M : Wd), K92 M = some r → J κ E mi_X0_addToTable Q 0 0 [(0, .ref 44), (3, .int a3)] M 92 []) : ∀ (m : Nat) (x4 : Int32) (M : Wd), F_X0_addToTable_L8 a1 a2 a3 K92 m x4 M = some r → J κ E mi_X0_addToTable Q 0 0 [(0, .ref 44), (1, .int a1), (2, .int a2), (3, .int a3), (4, .int x4)] M 8 [] := by
  intro m
  induction m with
  | zero => intro x4 M h; exact (nomatch (show (none : Option ρ) = some r from h))
  | succ m ih =>
    intro x4 M h
    unfold F_X0_addToTable_L8 at h
    refine J_iload (pc := 8) dX0_addToTable_8 4 rfl ?_
    refine J_if_lt (pc := 10) (tgt := 92) dX0_addToTable_10 (by decide) (fun c3 => ?_) (fun c3 => ?_)
    · replace h := ifp c3 h
      refine J_sub [0, 3] rfl ?_
      exact hK92 _ h
    · replace h := ifn c3 h
      refine J_iload (pc := 13) dX0_addToTable_13 4 rfl ?_
      refine J_iload_n (pc := 15) dX0_addToTable_15 rfl 2 rfl ?_
      refine J_iadd (pc := 16) dX0_addToTable_16 ?_
      refine J_iconst (v := (5 : Int32)) (pc := 17) dX0_addToTable_17 (by decide) ?_
      obtain ⟨v4, e5, h⟩ := bnd_e h
      refine J_join [(0, .ref 44), (1, .int a1), (2, .int a2), (3, .int a3), (4, .int x4)] M 32 [.int v4] ?_ (fun hJ => ?_)
      · refine J_istore (pc := 32) dX0_addToTable_32 (Nat.le_of_ble_eq_true rfl) [1, 2, 3, 4, 5, 0] rfl ?_
        refine J_iconst (v := (0 : Int32)) (pc := 34) dX0_addToTable_34 (by decide) ?_
        refine J_istore (pc := 35) dX0_addToTable_35 (Nat.le_of_ble_eq_true rfl) [1, 2, 3, 4, 5, 6, 0] rfl ?_
        refine J_LS [(0, .ref 44), (1, .int a1), (2, .int a2), (3, .int a3), (4, .int x4), (5, .int v4), (6, .int (0 : Int32))] [] rfl rfl ?_
        refine kL_X0_addToTable_L37 _ _ _ _ _ _ (fun M17 h => ?_) fuelN _ _ h
        obtain ⟨v18, e19, h⟩ := bnd_e h
        refine J_iinc (v := v18) (pc := 86) dX0_addToTable_86 4 rfl (by rw [e19]; rfl) (Nat.le_of_ble_eq_true rfl) [1, 2, 3, 4, 0] rfl ?_
        refine J_goto (pc := 89) (tgt := 8) dX0_addToTable_89 (by decide) ?_
        exact ih _ _ h
      · refine J_icmp_gt (pc := 18) (tgt := 31) dX0_addToTable_18 (by decide) (fun c6 => ?_) (fun c6 => ?_)
        · refine J_iconst (v := (-1 : Int32)) (pc := 31) dX0_addToTable_31 (by decide) ?_
          refine J_topi (y := v4) (by rw [e5, if_pos c6]) ?_
          exact hJ
        · refine J_iload_n (pc := 21) dX0_addToTable_21 rfl 1 rfl ?_
          refine J_iload (pc := 22) dX0_addToTable_22 4 rfl ?_
          refine J_iload_n (pc := 24) dX0_addToTable_24 rfl 2 rfl ?_
          refine J_callSN (g := mi_X3_cellsOf) (pc := 25) [.int a1, .int x4, .int a2] [] ms_X3_cellsOf w_268 (k_X3_cellsOf  a1 x4 a2 _) rfl rfl ⟨⟨Nat.le_of_ble_eq_true rfl, Nat.le_of_ble_eq_true rfl⟩, Nat.le_of_ble_eq_true rfl, Nat.le_of_ble_eq_true rfl⟩ (Nat.le_of_ble_eq_true rfl) dX0_addToTable_25 (Jk_v rfl rfl fun hok7 => ?_)
          refine J_goto (pc := 28) (tgt := 32) dX0_addToTable_28 (by decide) ?_
          refine J_topi (y := v4) (by rw [e5, if_neg c6]) ?_
          exact hJ
set_option maxHeartbeats 4000000 in
set_option maxRecDepth 100000 in
theorem k_X0_addToTable {E : En} (a1 : Int32) (a2 : Int32) (M : Wd) {M' : Wd} (h : F_X0_addToTable a1 a2 M = some M') : Con E mi_X0_addToTable [.ref 44, .int a1, .int a2] M (.inl none) M' := by
  unfold F_X0_addToTable at h
  refine Con.of (by decide) rfl (Nat.le_of_ble_eq_true rfl) (fun κ => ?_)
  show J κ E mi_X0_addToTable _ 0 0 [(0, .ref 44), (1, .int a1), (2, .int a2)] M 0 []
  refine J_aload_n (pc := 0) dX0_addToTable_0 rfl 0 rfl ?_
  refine get_44_7 (pc := 1) w_106 dX0_addToTable_1 ?_
  obtain ⟨v1, e2, h⟩ := bnd_e h
  refine J_topi e2 ?_
  refine J_istore_n (pc := 4) dX0_addToTable_4 rfl (Nat.le_of_ble_eq_true rfl) [1, 2, 3, 0] rfl ?_
  refine J_iconst (v := (3 : Int32)) (pc := 5) dX0_addToTable_5 (by decide) ?_
  refine J_istore (pc := 6) dX0_addToTable_6 (Nat.le_of_ble_eq_true rfl) [1, 2, 3, 4, 0] rfl ?_
  refine J_LS [(0, .ref 44), (1, .int a1), (2, .int a2), (3, .int v1), (4, .int (3 : Int32))] [] rfl rfl ?_
  refine kL_X0_addToTable_L8 _ _ _ _ (fun M20 h => ?_) fuelN _ _ h
  refine J_aload_n (pc := 92) dX0_addToTable_92 rfl 0 rfl ?_
  refine J_iload_n (pc := 93) dX0_addToTable_93 rfl 1 rfl ?_
  refine J_iconst (v := (4 : Int32)) (pc := 94) dX0_addToTable_94 (by decide) ?_
  refine J_imul (pc := 95) dX0_addToTable_95 ?_
  refine J_sipush (v := (4096 : Int32)) (pc := 96) dX0_addToTable_96 (by decide) ?_
  refine J_mmin (pc := 99) w_258 w_260 w_259 w_31 (Nat.le_of_ble_eq_true rfl) (Nat.le_of_ble_eq_true rfl) (Nat.le_of_ble_eq_true rfl) (Nat.le_of_ble_eq_true rfl) dX0_addToTable_99 ?_
  refine put_44_7 (pc := 102) w_106 dX0_addToTable_102 ?_
  cases h
  exact J_return dX0_addToTable_105 rfl rfl rfl rfl rfl
set_option maxHeartbeats 4000000 in
set_option maxRecDepth 100000 in
theorem kL_X0_load_L34 {κ : Kx} {E : En} {Q : State → Prop} {ρ : Type} {r : ρ} (K109 : Wd → Option ρ) (hK109 : ∀ (M : Wd), K109 M = some r → J κ E mi_X0_load Q 0 0 [] M 109 []) : ∀ (m : Nat) (x4 : Int32) (M : Wd), F_X0_load_L34 K109 m x4 M = some r → J κ E mi_X0_load Q 0 0 [(0, .ref 44), (1, .ref 1), (4, .int x4)] M 34 [] := by
  intro m
  induction m with
  | zero => intro x4 M h; exact (nomatch (show (none : Option ρ) = some r from h))
  | succ m ih =>
    intro x4 M h
    unfold F_X0_load_L34 at h
    refine J_iload (pc := 34) dX0_load_34 2 rfl ?_
    refine J_aload_n (pc := 36) dX0_load_36 rfl 0 rfl ?_
    refine get_44_6 (pc := 37) w_105 dX0_load_37 ?_
    refine J_icmp_ge (pc := 40) (tgt := 109) dX0_load_40 (by decide) (fun c1 => ?_) (fun c1 => ?_)
    · replace h := ifp c1 h
      refine J_sub [] rfl ?_
      exact hK109 _ h
    · replace h := ifn c1 h
      refine J_iload (pc := 43) dX0_load_43 2 rfl ?_
      refine J_bipush (v := (6 : Int32)) (pc := 45) dX0_load_45 (by decide) ?_
      refine J_icmp_ge (pc := 47) (tgt := 109) dX0_load_47 (by decide) (fun c2 => ?_) (fun c2 => ?_)
      · replace h := ifp c2 h
        refine J_sub [] rfl ?_
        exact hK109 _ h
      · replace h := ifn c2 h
        refine J_aload_n (pc := 50) dX0_load_50 rfl 0 rfl ?_
        refine get_44_0 (pc := 51) w_99 dX0_load_51 ?_
        refine J_iload (pc := 54) dX0_load_54 2 rfl ?_
        refine J_aload_n (pc := 56) dX0_load_56 rfl 1 rfl ?_
        refine get_1_2 (pc := 57) w_54 dX0_load_57 ?_
        refine J_iload (pc := 60) dX0_load_60 2 rfl ?_
        obtain ⟨v3, e4, hk5, h⟩ := ldi_e h
        refine J_iald (c := 4) (N := 6) (pc := 62) ja_4 (Nat.le_of_ble_eq_true rfl) hk5 dX0_load_62 ?_
        refine J_topi e4 ?_
        obtain ⟨hk6, h⟩ := inb_e h
        refine J_iast (c := 45) (N := 6) (pc := 63) (fun _ => ja_45) (Nat.le_of_ble_eq_true rfl) hk6 dX0_load_63 ?_
        refine J_aload_n (pc := 64) dX0_load_64 rfl 0 rfl ?_
        refine J_dup (pc := 65) dX0_load_65 rfl ?_
        refine get_44_8 (pc := 66) w_107 dX0_load_66 ?_
        refine J_topi (y := (M.1 44 8)) (Eq.symm (show (upI M 45 x4.toNatClampNeg v3).1 44 8 = (M.1 44 8) from (eI_ne (Nat.ne_of_beq_eq_false rfl) rfl))) ?_
        refine J_aload_n (pc := 69) dX0_load_69 rfl 1 rfl ?_
        refine get_1_1 (pc := 70) w_51 dX0_load_70 ?_
        refine J_iload (pc := 73) dX0_load_73 2 rfl ?_
        obtain ⟨v7, e8, hk9, h⟩ := ldi_e h
        refine J_iald (c := 3) (N := 6) (pc := 75) ja_3 (Nat.le_of_ble_eq_true rfl) hk9 dX0_load_75 ?_
        refine J_topi (e8.trans (congrFun (Eq.symm (show (upI M 45 x4.toNatClampNeg v3).1 3 = M.1 3 from (rI_ne (Nat.ne_of_beq_eq_false rfl) rfl))) _)) ?_
        refine J_iconst (v := (2 : Int32)) (pc := 76) dX0_load_76 (by decide) ?_
        refine J_iload (pc := 77) dX0_load_77 2 rfl ?_
        refine J_imul (pc := 79) dX0_load_79 ?_
        refine J_ishl (pc := 80) dX0_load_80 ?_
        refine J_iadd (pc := 81) dX0_load_81 ?_
        refine put_44_8 (pc := 82) w_107 dX0_load_82 ?_
        refine J_aload_n (pc := 85) dX0_load_85 rfl 0 rfl ?_
        refine J_aload_n (pc := 86) dX0_load_86 rfl 1 rfl ?_
        refine get_1_0 (pc := 87) w_48 dX0_load_87 ?_
        refine J_iload (pc := 90) dX0_load_90 2 rfl ?_
        obtain ⟨v10, e11, hk12, h⟩ := ldi_e h
        refine J_iald (c := 2) (N := 6) (pc := 92) ja_2 (Nat.le_of_ble_eq_true rfl) hk12 dX0_load_92 ?_
        refine J_topi (e11.trans (congrFun (Eq.symm (show (upI (upI M 45 x4.toNatClampNeg v3) 44 8 ((M.1 44 8) + (v7 <<< (((2 : Int32) * x4) &&& 31)))).1 2 = M.1 2 from (rI_ne (Nat.ne_of_beq_eq_false rfl) (rI_ne (Nat.ne_of_beq_eq_false rfl) rfl)))) _)) ?_
        refine J_aload_n (pc := 93) dX0_load_93 rfl 1 rfl ?_
        refine get_1_2 (pc := 94) w_54 dX0_load_94 ?_
        refine J_iload (pc := 97) dX0_load_97 2 rfl ?_
        obtain ⟨v13, e14, hk15, h⟩ := ldi_e h
        refine J_iald (c := 4) (N := 6) (pc := 99) ja_4 (Nat.le_of_ble_eq_true rfl) hk15 dX0_load_99 ?_
        refine J_topi (e14.trans (congrFun (Eq.symm (show (upI (upI M 45 x4.toNatClampNeg v3) 44 8 ((M.1 44 8) + (v7 <<< (((2 : Int32) * x4) &&& 31)))).1 4 = M.1 4 from (rI_ne (Nat.ne_of_beq_eq_false rfl) (rI_ne (Nat.ne_of_beq_eq_false rfl) rfl)))) _)) ?_
        obtain ⟨M16, hc17, h⟩ := obind_e h
        refine J_callV (g := mi_X0_addToTable) (ci := 0) (pc := 100) [.int v10, .int v13] [] mv_X0_addToTable w_264 (k_X0_addToTable v10 v13 _ hc17) rfl (by decide) rfl rfl rfl ⟨⟨Nat.le_of_ble_eq_true rfl, Nat.le_of_ble_eq_true rfl⟩, Nat.le_of_ble_eq_true rfl, Nat.le_of_ble_eq_true rfl⟩ (Nat.le_of_ble_eq_true rfl) dX0_load_100 (Jk_0 rfl rfl ?_)
        obtain ⟨v18, e19, h⟩ := bnd_e h
        refine J_iinc (v := v18) (pc := 103) dX0_load_103 2 rfl (by rw [e19]; rfl) (Nat.le_of_ble_eq_true rfl) [1, 2, 0] rfl ?_
        refine J_goto (pc := 106) (tgt := 34) dX0_load_106 (by decide) ?_
        exact ih _ _ h
set_option maxHeartbeats 4000000 in
set_option maxRecDepth 100000 in
theorem k_X0_load {E : En} (a2 : Int32) (a3 : Int32) (M : Wd) {M' : Wd} (h : F_X0_load a2 a3 M = some M') : Con E mi_X0_load [.ref 44, .ref 1, .int a2, .int a3] M (.inl none) M' := by
  unfold F_X0_load at h
  refine Con.of (by decide) rfl (Nat.le_of_ble_eq_true rfl) (fun κ => ?_)
  show J κ E mi_X0_load _ 0 0 [(0, .ref 44), (1, .ref 1), (2, .int a2), (3, .int a3)] M 0 []
  refine J_aload_n (pc := 0) dX0_load_0 rfl 0 rfl ?_
  refine J_iconst (v := (0 : Int32)) (pc := 1) dX0_load_1 (by decide) ?_
  refine J_iload_n (pc := 2) dX0_load_2 rfl 2 rfl ?_
  refine J_bipush (v := (6 : Int32)) (pc := 3) dX0_load_3 (by decide) ?_
  refine J_mmin (pc := 5) w_258 w_260 w_259 w_31 (Nat.le_of_ble_eq_true rfl) (Nat.le_of_ble_eq_true rfl) (Nat.le_of_ble_eq_true rfl) (Nat.le_of_ble_eq_true rfl) dX0_load_5 ?_
  refine J_mmax (pc := 8) w_261 w_263 w_262 w_31 (Nat.le_of_ble_eq_true rfl) (Nat.le_of_ble_eq_true rfl) (Nat.le_of_ble_eq_true rfl) (Nat.le_of_ble_eq_true rfl) dX0_load_8 ?_
  refine put_44_6 (pc := 11) w_105 dX0_load_11 ?_
  refine J_aload_n (pc := 14) dX0_load_14 rfl 0 rfl ?_
  refine J_iconst (v := (1 : Int32)) (pc := 15) dX0_load_15 (by decide) ?_
  refine put_44_7 (pc := 16) w_106 dX0_load_16 ?_
  refine J_aload_n (pc := 19) dX0_load_19 rfl 0 rfl ?_
  refine J_iconst (v := (0 : Int32)) (pc := 20) dX0_load_20 (by decide) ?_
  refine put_44_8 (pc := 21) w_107 dX0_load_21 ?_
  refine J_aload_n (pc := 24) dX0_load_24 rfl 0 rfl ?_
  refine get_44_1 (pc := 25) w_100 dX0_load_25 ?_
  refine J_iconst (v := (0 : Int32)) (pc := 28) dX0_load_28 (by decide) ?_
  refine J_iload_n (pc := 29) dX0_load_29 rfl 3 rfl ?_
  refine J_iast (c := 46) (N := 4096) (pc := 30) (fun _ => ja_46) (Nat.le_of_ble_eq_true rfl) (vpc rfl) dX0_load_30 ?_
  refine J_M (upI (upI (upI (upI M 44 6 (F_max (0 : Int32) (F_min a2 (6 : Int32)))) 44 7 (1 : Int32)) 44 8 (0 : Int32)) 46 0 a3) rfl ?_
  refine J_iconst (v := (0 : Int32)) (pc := 31) dX0_load_31 (by decide) ?_
  refine J_istore (pc := 32) dX0_load_32 (Nat.le_of_ble_eq_true rfl) [1, 2, 3, 4, 0] rfl ?_
  refine J_sub [0, 1, 4] rfl ?_
  refine kL_X0_load_L34 _ (fun M20 h => ?_) fuelN _ _ h
  cases h
  exact J_return dX0_load_109 rfl rfl rfl rfl rfl
set_option maxHeartbeats 4000000 in
set_option maxRecDepth 100000 in
theorem k_X0_exists {E : En} (a1 : Int32) (M : Wd) {r : Int32} (h : F_X0_exists a1 M = some r) : Con E mi_X0_exists [.ref 44, .int a1] M (.inl (some (.int r))) M := by
  unfold F_X0_exists at h
  refine Con.of (by decide) rfl (Nat.le_of_ble_eq_true rfl) (fun κ => ?_)
  show J κ E mi_X0_exists _ 0 0 [(0, .ref 44), (1, .int a1)] M 0 []
  refine J_iload_n (pc := 0) dX0_exists_0 rfl 1 rfl ?_
  refine J_if_lt (pc := 1) (tgt := 26) dX0_exists_1 (by decide) (fun c1 => ?_) (fun c1 => ?_)
  · replace h := ifp c1 h
    refine J_iconst (v := (0 : Int32)) (pc := 26) dX0_exists_26 (by decide) ?_
    cases h
    exact J_zreturn dX0_exists_27 rfl (Or.inl rfl) rfl rfl rfl rfl
  · replace h := ifn c1 h
    refine J_iload_n (pc := 4) dX0_exists_4 rfl 1 rfl ?_
    refine J_aload_n (pc := 5) dX0_exists_5 rfl 0 rfl ?_
    refine get_44_7 (pc := 6) w_106 dX0_exists_6 ?_
    refine J_icmp_ge (pc := 9) (tgt := 26) dX0_exists_9 (by decide) (fun c2 => ?_) (fun c2 => ?_)
    · replace h := ifp c2 h
      refine J_iconst (v := (0 : Int32)) (pc := 26) dX0_exists_26 (by decide) ?_
      cases h
      exact J_zreturn dX0_exists_27 rfl (Or.inl rfl) rfl rfl rfl rfl
    · replace h := ifn c2 h
      refine J_aload_n (pc := 12) dX0_exists_12 rfl 0 rfl ?_
      refine get_44_1 (pc := 13) w_100 dX0_exists_13 ?_
      refine J_iload_n (pc := 16) dX0_exists_16 rfl 1 rfl ?_
      obtain ⟨v3, e4, hk5, h⟩ := ldi_e h
      refine J_iald (c := 46) (N := 4096) (pc := 17) ja_46 (Nat.le_of_ble_eq_true rfl) hk5 dX0_exists_17 ?_
      refine J_topi e4 ?_
      refine J_iconst (v := (-1 : Int32)) (pc := 18) dX0_exists_18 (by decide) ?_
      refine J_icmp_eq (pc := 19) (tgt := 26) dX0_exists_19 (by decide) (fun c6 => ?_) (fun c6 => ?_)
      · replace h := ifp c6 h
        refine J_iconst (v := (0 : Int32)) (pc := 26) dX0_exists_26 (by decide) ?_
        cases h
        exact J_zreturn dX0_exists_27 rfl (Or.inl rfl) rfl rfl rfl rfl
      · replace h := ifn c6 h
        refine J_iconst (v := (1 : Int32)) (pc := 22) dX0_exists_22 (by decide) ?_
        refine J_goto (pc := 23) (tgt := 27) dX0_exists_23 (by decide) ?_
        cases h
        exact J_zreturn dX0_exists_27 rfl (Or.inr rfl) rfl rfl rfl rfl
set_option maxHeartbeats 4000000 in
set_option maxRecDepth 100000 in
theorem k_X0_isOutIn {E : En} (a1 : Int32) (M : Wd) : Con E mi_X0_isOutIn [.ref 44, .int a1] M (.inl (some (.int (F_X0_isOutIn a1 M)))) M := by
  obtain ⟨r, h⟩ : ∃ r, F_X0_isOutIn a1 M = r := ⟨_, rfl⟩
  rw [h]
  unfold F_X0_isOutIn at h
  refine Con.of (by decide) rfl (Nat.le_of_ble_eq_true rfl) (fun κ => ?_)
  show J κ E mi_X0_isOutIn _ 0 0 [(0, .ref 44), (1, .int a1)] M 0 []
  refine J_aload_n (pc := 0) dX0_isOutIn_0 rfl 0 rfl ?_
  refine get_44_6 (pc := 1) w_105 dX0_isOutIn_1 ?_
  refine J_if_le (pc := 4) (tgt := 25) dX0_isOutIn_4 (by decide) (fun c1 => ?_) (fun c1 => ?_)
  · replace h := ifp c1 h
    refine J_iconst (v := (0 : Int32)) (pc := 25) dX0_isOutIn_25 (by decide) ?_
    subst h
    exact J_zreturn dX0_isOutIn_26 rfl (Or.inl rfl) rfl rfl rfl rfl
  · replace h := ifn c1 h
    refine J_iload_n (pc := 7) dX0_isOutIn_7 rfl 1 rfl ?_
    refine J_iconst (v := (4 : Int32)) (pc := 8) dX0_isOutIn_8 (by decide) ?_
    refine J_irem (pc := 9) dX0_isOutIn_9 (by decide) ?_
    refine J_aload_n (pc := 10) dX0_isOutIn_10 rfl 0 rfl ?_
    refine get_44_0 (pc := 11) w_99 dX0_isOutIn_11 ?_
    refine J_iconst (v := (0 : Int32)) (pc := 14) dX0_isOutIn_14 (by decide) ?_
    refine J_iald (c := 45) (N := 6) (pc := 15) ja_45 (Nat.le_of_ble_eq_true rfl) (vpc rfl) dX0_isOutIn_15 ?_
    refine J_topi (x := M.1 45 (Int32.toNatClampNeg 0)) (y := (M.1 45 0)) (Eq.symm (a := M.1 45 (Int32.toNatClampNeg 0)) (show M.1 45 0 = (M.1 45 0) from rfl)) ?_
    refine J_iadd (pc := 16) dX0_isOutIn_16 ?_
    refine J_iconst (v := (5 : Int32)) (pc := 17) dX0_isOutIn_17 (by decide) ?_
    refine J_icmp_ne (pc := 18) (tgt := 25) dX0_isOutIn_18 (by decide) (fun c2 => ?_) (fun c2 => ?_)
    · replace h := ifn c2 h
      refine J_iconst (v := (0 : Int32)) (pc := 25) dX0_isOutIn_25 (by decide) ?_
      subst h
      exact J_zreturn dX0_isOutIn_26 rfl (Or.inl rfl) rfl rfl rfl rfl
    · replace h := ifp c2 h
      refine J_iconst (v := (1 : Int32)) (pc := 21) dX0_isOutIn_21 (by decide) ?_
      refine J_goto (pc := 22) (tgt := 26) dX0_isOutIn_22 (by decide) ?_
      subst h
      exact J_zreturn dX0_isOutIn_26 rfl (Or.inr rfl) rfl rfl rfl rfl
set_option maxHeartbeats 4000000 in
set_option maxRecDepth 100000 in
theorem kL_X0_allArrangements_L4 {κ : Kx} {E : En} {Q : State → Prop} {ρ : Type} {r : ρ} (M : Wd) (K29 : Int32 → Option ρ) (hK29 : ∀ (x1 : Int32), K29 x1 = some r → J κ E mi_X0_allArrangements Q 0 0 [(1, .int x1)] M 29 []) : ∀ (m : Nat) (x1 : Int32) (x2 : Int32), F_X0_allArrangements_L4 M K29 m x1 x2 = some r → J κ E mi_X0_allArrangements Q 0 0 [(0, .ref 44), (1, .int x1), (2, .int x2)] M 4 [] := by
  intro m
  induction m with
  | zero => intro x1 x2 h; exact (nomatch (show (none : Option ρ) = some r from h))
  | succ m ih =>
    intro x1 x2 h
    unfold F_X0_allArrangements_L4 at h
    refine J_iload_n (pc := 4) dX0_allArrangements_4 rfl 2 rfl ?_
    refine J_aload_n (pc := 5) dX0_allArrangements_5 rfl 0 rfl ?_
    refine get_44_7 (pc := 6) w_106 dX0_allArrangements_6 ?_
    refine J_icmp_ge (pc := 9) (tgt := 29) dX0_allArrangements_9 (by decide) (fun c1 => ?_) (fun c1 => ?_)
    · replace h := ifp c1 h
      refine J_sub [1] rfl ?_
      exact hK29 _ h
    · replace h := ifn c1 h
      refine J_aload_n (pc := 12) dX0_allArrangements_12 rfl 0 rfl ?_
      refine J_iload_n (pc := 13) dX0_allArrangements_13 rfl 2 rfl ?_
      obtain ⟨v2, hc3, h⟩ := obind_e h
      refine J_callV (g := mi_X0_exists) (ci := 0) (pc := 14) [.int x2] [] mv_X0_exists w_300 (k_X0_exists  x2 _ hc3) rfl (by decide) rfl rfl rfl ⟨⟨Nat.le_of_ble_eq_true rfl, Nat.le_of_ble_eq_true rfl⟩, Nat.le_of_ble_eq_true rfl, Nat.le_of_ble_eq_true rfl⟩ (Nat.le_of_ble_eq_true rfl) dX0_allArrangements_14 (Jk_v rfl rfl fun hok4 => ?_)
      obtain ⟨v5, e6, h⟩ := bnd_e h
      refine J_join [(0, .ref 44), (1, .int v5), (2, .int x2)] M 23 [] ?_ (fun hJ => ?_)
      · obtain ⟨v8, e9, h⟩ := bnd_e h
        refine J_iinc (v := v8) (pc := 23) dX0_allArrangements_23 2 rfl (by rw [e9]; rfl) (Nat.le_of_ble_eq_true rfl) [1, 2, 0] rfl ?_
        refine J_goto (pc := 26) (tgt := 4) dX0_allArrangements_26 (by decide) ?_
        exact ih _ _ h
      · refine J_if_eq (pc := 17) (tgt := 23) dX0_allArrangements_17 (by decide) (fun c7 => ?_) (fun c7 => ?_)
        · refine J_LS [(0, .ref 44), (1, .int v5), (2, .int x2)] [] (by rw [e6, if_pos c7]; first | done | rfl) rfl ?_
          exact hJ
        · refine J_iinc (v := (x1 + (1 : Int32))) (pc := 20) dX0_allArrangements_20 1 rfl rfl (Nat.le_of_ble_eq_true rfl) [1, 0, 2] rfl ?_
          refine J_LS [(0, .ref 44), (1, .int v5), (2, .int x2)] [] (by rw [e6, if_neg c7]; first | done | rfl) rfl ?_
          exact hJ
set_option maxHeartbeats 4000000 in
set_option maxRecDepth 100000 in
theorem k_X0_allArrangements {E : En} (M : Wd) {r : Int32} (h : F_X0_allArrangements M = some r) : Con E mi_X0_allArrangements [.ref 44] M (.inl (some (.int r))) M := by
  unfold F_X0_allArrangements at h
  refine Con.of (by decide) rfl (Nat.le_of_ble_eq_true rfl) (fun κ => ?_)
  show J κ E mi_X0_allArrangements _ 0 0 [(0, .ref 44)] M 0 []
  refine J_iconst (v := (0 : Int32)) (pc := 0) dX0_allArrangements_0 (by decide) ?_
  refine J_istore_n (pc := 1) dX0_allArrangements_1 rfl (Nat.le_of_ble_eq_true rfl) [1, 0] rfl ?_
  refine J_iconst (v := (0 : Int32)) (pc := 2) dX0_allArrangements_2 (by decide) ?_
  refine J_istore_n (pc := 3) dX0_allArrangements_3 rfl (Nat.le_of_ble_eq_true rfl) [1, 2, 0] rfl ?_
  refine J_LS [(0, .ref 44), (1, .int (0 : Int32)), (2, .int (0 : Int32))] [] rfl rfl ?_
  refine kL_X0_allArrangements_L4 _ _ (fun v10 h => ?_) fuelN _ _ h
  refine J_iload_n (pc := 29) dX0_allArrangements_29 rfl 0 rfl ?_
  cases h
  exact J_ireturn dX0_allArrangements_30 rfl rfl rfl rfl rfl
set_option maxHeartbeats 4000000 in
set_option maxRecDepth 100000 in
theorem k_X0_behindStep {E : En} (a1 : Int32) (a2 : Int32) (a3 : Int32) (M : Wd) {r : Int32} (h : F_X0_behindStep a1 a2 a3 M = some r) : Con E mi_X0_behindStep [.ref 44, .int a1, .int a2, .int a3] M (.inl (some (.int r))) M := by
  unfold F_X0_behindStep at h
  refine Con.of (by decide) rfl (Nat.le_of_ble_eq_true rfl) (fun κ => ?_)
  show J κ E mi_X0_behindStep _ 0 0 [(0, .ref 44), (1, .int a1), (2, .int a2), (3, .int a3)] M 0 []
  refine J_iload_n (pc := 0) dX0_behindStep_0 rfl 1 rfl ?_
  refine J_iconst (v := (2 : Int32)) (pc := 1) dX0_behindStep_1 (by decide) ?_
  refine J_iload_n (pc := 2) dX0_behindStep_2 rfl 2 rfl ?_
  refine J_imul (pc := 3) dX0_behindStep_3 ?_
  refine J_ishr (pc := 4) dX0_behindStep_4 ?_
  refine J_iconst (v := (3 : Int32)) (pc := 5) dX0_behindStep_5 (by decide) ?_
  refine J_iand (pc := 6) dX0_behindStep_6 ?_
  refine J_iload_n (pc := 7) dX0_behindStep_7 rfl 3 rfl ?_
  refine J_iadd (pc := 8) dX0_behindStep_8 ?_
  obtain ⟨v1, e2, h⟩ := bnd_e h
  refine J_topi e2 ?_
  refine J_istore (pc := 9) dX0_behindStep_9 (Nat.le_of_ble_eq_true rfl) [1, 2, 3, 4, 0] rfl ?_
  refine J_iload_n (pc := 11) dX0_behindStep_11 rfl 1 rfl ?_
  refine J_iload_n (pc := 12) dX0_behindStep_12 rfl 3 rfl ?_
  refine J_iconst (v := (1 : Int32)) (pc := 13) dX0_behindStep_13 (by decide) ?_
  refine J_iconst (v := (2 : Int32)) (pc := 14) dX0_behindStep_14 (by decide) ?_
  refine J_iload_n (pc := 15) dX0_behindStep_15 rfl 2 rfl ?_
  refine J_imul (pc := 16) dX0_behindStep_16 ?_
  refine J_ishl (pc := 17) dX0_behindStep_17 ?_
  refine J_imul (pc := 18) dX0_behindStep_18 ?_
  refine J_iadd (pc := 19) dX0_behindStep_19 ?_
  obtain ⟨v3, e4, h⟩ := bnd_e h
  refine J_topi e4 ?_
  refine J_istore (pc := 20) dX0_behindStep_20 (Nat.le_of_ble_eq_true rfl) [1, 2, 3, 4, 5, 0] rfl ?_
  refine J_LS [(0, .ref 44), (1, .int a1), (2, .int a2), (3, .int a3), (4, .int v1), (5, .int v3)] [] rfl rfl ?_
  refine J_iload (pc := 22) dX0_behindStep_22 4 rfl ?_
  refine J_if_lt (pc := 24) (tgt := 47) dX0_behindStep_24 (by decide) (fun c5 => ?_) (fun c5 => ?_)
  · replace h := ifp c5 h
    refine J_iconst (v := (-1 : Int32)) (pc := 47) dX0_behindStep_47 (by decide) ?_
    cases h
    exact J_ireturn dX0_behindStep_48 rfl rfl rfl rfl rfl
  · replace h := ifn c5 h
    refine J_iload (pc := 27) dX0_behindStep_27 4 rfl ?_
    refine J_iconst (v := (4 : Int32)) (pc := 29) dX0_behindStep_29 (by decide) ?_
    refine J_icmp_ge (pc := 30) (tgt := 47) dX0_behindStep_30 (by decide) (fun c6 => ?_) (fun c6 => ?_)
    · replace h := ifp c6 h
      refine J_iconst (v := (-1 : Int32)) (pc := 47) dX0_behindStep_47 (by decide) ?_
      cases h
      exact J_ireturn dX0_behindStep_48 rfl rfl rfl rfl rfl
    · replace h := ifn c6 h
      refine J_iload (pc := 33) dX0_behindStep_33 5 rfl ?_
      refine J_if_lt (pc := 35) (tgt := 47) dX0_behindStep_35 (by decide) (fun c7 => ?_) (fun c7 => ?_)
      · replace h := ifp c7 h
        refine J_iconst (v := (-1 : Int32)) (pc := 47) dX0_behindStep_47 (by decide) ?_
        cases h
        exact J_ireturn dX0_behindStep_48 rfl rfl rfl rfl rfl
      · replace h := ifn c7 h
        refine J_iload (pc := 38) dX0_behindStep_38 5 rfl ?_
        refine J_aload_n (pc := 40) dX0_behindStep_40 rfl 0 rfl ?_
        refine get_44_7 (pc := 41) w_106 dX0_behindStep_41 ?_
        refine J_icmp_lt (pc := 44) (tgt := 49) dX0_behindStep_44 (by decide) (fun c8 => ?_) (fun c8 => ?_)
        · replace h := ifp c8 h
          refine J_aload_n (pc := 49) dX0_behindStep_49 rfl 0 rfl ?_
          refine get_44_1 (pc := 50) w_100 dX0_behindStep_50 ?_
          refine J_iload (pc := 53) dX0_behindStep_53 5 rfl ?_
          obtain ⟨v9, e10, hk11, h⟩ := ldi_e h
          refine J_iald (c := 46) (N := 4096) (pc := 55) ja_46 (Nat.le_of_ble_eq_true rfl) hk11 dX0_behindStep_55 ?_
          refine J_topi e10 ?_
          refine J_iconst (v := (-1 : Int32)) (pc := 56) dX0_behindStep_56 (by decide) ?_
          refine J_icmp_ne (pc := 57) (tgt := 64) dX0_behindStep_57 (by decide) (fun c12 => ?_) (fun c12 => ?_)
          · replace h := ifn c12 h
            refine J_iload (pc := 64) dX0_behindStep_64 5 rfl ?_
            cases h
            exact J_ireturn dX0_behindStep_66 rfl rfl rfl rfl rfl
          · replace h := ifp c12 h
            refine J_iconst (v := (-1 : Int32)) (pc := 60) dX0_behindStep_60 (by decide) ?_
            refine J_goto (pc := 61) (tgt := 66) dX0_behindStep_61 (by decide) ?_
            cases h
            exact J_ireturn dX0_behindStep_66 rfl rfl rfl rfl rfl
        · replace h := ifn c8 h
          refine J_iconst (v := (-1 : Int32)) (pc := 47) dX0_behindStep_47 (by decide) ?_
          cases h
          exact J_ireturn dX0_behindStep_48 rfl rfl rfl rfl rfl
set_option maxHeartbeats 4000000 in
set_option maxRecDepth 100000 in
theorem kL_X0_behindSlide_L20 {κ : Kx} {E : En} {Q : State → Prop} {ρ : Type} {r : ρ} (a2 : Int32) (a4 : Int32) (M : Wd) (K48 : Int32 → Option ρ) (hK48 : ∀ (x5 : Int32), K48 x5 = some r → J κ E mi_X0_behindSlide Q 0 0 [(5, .int x5)] M 48 []) : ∀ (m : Nat) (x5 : Int32) (x6 : Int32), F_X0_behindSlide_L20 a2 a4 M K48 m x5 x6 = some r → J κ E mi_X0_behindSlide Q 0 0 [(0, .ref 44), (2, .int a2), (4, .int a4), (5, .int x5), (6, .int x6)] M 20 [] := by
  intro m
  induction m with
  | zero => intro x5 x6 h; exact (nomatch (show (none : Option ρ) = some r from h))
  | succ m ih =>
    intro x5 x6 h
    unfold F_X0_behindSlide_L20 at h
    refine J_iload (pc := 20) dX0_behindSlide_20 4 rfl ?_
    refine J_if_le (pc := 22) (tgt := 48) dX0_behindSlide_22 (by decide) (fun c6 => ?_) (fun c6 => ?_)
    · replace h := ifp c6 h
      refine J_sub [3] rfl ?_
      exact hK48 _ h
    · replace h := ifn c6 h
      refine J_iload (pc := 25) dX0_behindSlide_25 3 rfl ?_
      refine J_iconst (v := (-1 : Int32)) (pc := 27) dX0_behindSlide_27 (by decide) ?_
      refine J_icmp_eq (pc := 28) (tgt := 48) dX0_behindSlide_28 (by decide) (fun c7 => ?_) (fun c7 => ?_)
      · replace h := ifp c7 h
        refine J_sub [3] rfl ?_
        exact hK48 _ h
      · replace h := ifn c7 h
        refine J_aload_n (pc := 31) dX0_behindSlide_31 rfl 0 rfl ?_
        refine J_iload (pc := 32) dX0_behindSlide_32 3 rfl ?_
        refine J_iload_n (pc := 34) dX0_behindSlide_34 rfl 1 rfl ?_
        refine J_iload (pc := 35) dX0_behindSlide_35 2 rfl ?_
        obtain ⟨v8, hc9, h⟩ := obind_e h
        refine J_callV (g := mi_X0_behindStep) (ci := 0) (pc := 37) [.int x5, .int a2, .int a4] [] mv_X0_behindStep w_308 (k_X0_behindStep  x5 a2 a4 _ hc9) rfl (by decide) rfl rfl rfl ⟨⟨Nat.le_of_ble_eq_true rfl, Nat.le_of_ble_eq_true rfl⟩, Nat.le_of_ble_eq_true rfl, Nat.le_of_ble_eq_true rfl⟩ (Nat.le_of_ble_eq_true rfl) dX0_behindSlide_37 (Jk_v rfl rfl fun hok10 => ?_)
        refine J_istore (pc := 40) dX0_behindSlide_40 (Nat.le_of_ble_eq_true rfl) [1, 2, 3, 0, 4] rfl ?_
        obtain ⟨v11, e12, h⟩ := bnd_e h
        refine J_iinc (v := v11) (pc := 42) dX0_behindSlide_42 4 rfl (by rw [e12]; rfl) (Nat.le_of_ble_eq_true rfl) [1, 2, 3, 4, 0] rfl ?_
        refine J_LS [(0, .ref 44), (2, .int a2), (4, .int a4), (5, .int v8), (6, .int v11)] [] rfl rfl ?_
        refine J_goto (pc := 45) (tgt := 20) dX0_behindSlide_45 (by decide) ?_
        exact ih _ _ h
set_option maxHeartbeats 4000000 in
set_option maxRecDepth 100000 in
theorem k_X0_behindSlide {E : En} (a1 : Int32) (a2 : Int32) (a3 : Int32) (M : Wd) {r : Int32} (h : F_X0_behindSlide a1 a2 a3 M = some r) : Con E mi_X0_behindSlide [.ref 44, .int a1, .int a2, .int a3] M (.inl (some (.int r))) M := by
  unfold F_X0_behindSlide at h
  refine Con.of (by decide) rfl (Nat.le_of_ble_eq_true rfl) (fun κ => ?_)
  show J κ E mi_X0_behindSlide _ 0 0 [(0, .ref 44), (1, .int a1), (2, .int a2), (3, .int a3)] M 0 []
  refine J_iload_n (pc := 0) dX0_behindSlide_0 rfl 3 rfl ?_
  obtain ⟨v1, e2, h⟩ := bnd_e h
  refine J_join [(0, .ref 44), (1, .int a1), (2, .int a2), (3, .int a3)] M 9 [.int v1] ?_ (fun hJ => ?_)
  · refine J_istore (pc := 9) dX0_behindSlide_9 (Nat.le_of_ble_eq_true rfl) [1, 2, 3, 4, 0] rfl ?_
    refine J_iload_n (pc := 11) dX0_behindSlide_11 rfl 1 rfl ?_
    refine J_istore (pc := 12) dX0_behindSlide_12 (Nat.le_of_ble_eq_true rfl) [1, 2, 3, 4, 5, 0] rfl ?_
    refine J_LS [(0, .ref 44), (1, .int a1), (2, .int a2), (3, .int a3), (4, .int v1), (5, .int a1)] [] rfl rfl ?_
    refine J_iload_n (pc := 14) dX0_behindSlide_14 rfl 3 rfl ?_
    refine J_mabs (pc := 15) w_645 w_241 w_240 w_31 (Nat.le_of_ble_eq_true rfl) (Nat.le_of_ble_eq_true rfl) (Nat.le_of_ble_eq_true rfl) (Nat.le_of_ble_eq_true rfl) dX0_behindSlide_15 ?_
    obtain ⟨v4, e5, h⟩ := bnd_e h
    refine J_topi e5 ?_
    refine J_istore (pc := 18) dX0_behindSlide_18 (Nat.le_of_ble_eq_true rfl) [1, 2, 3, 4, 5, 6, 0] rfl ?_
    refine J_sub [0, 2, 4, 5, 6] rfl ?_
    refine kL_X0_behindSlide_L20 _ _ _ _ (fun v13 h => ?_) fuelN _ _ h
    refine J_iload (pc := 48) dX0_behindSlide_48 0 rfl ?_
    cases h
    exact J_ireturn dX0_behindSlide_50 rfl rfl rfl rfl rfl
  · refine J_if_le (pc := 1) (tgt := 8) dX0_behindSlide_1 (by decide) (fun c3 => ?_) (fun c3 => ?_)
    · refine J_iconst (v := (-1 : Int32)) (pc := 8) dX0_behindSlide_8 (by decide) ?_
      refine J_topi (y := v1) (by rw [e2, if_pos c3]) ?_
      exact hJ
    · refine J_iconst (v := (1 : Int32)) (pc := 4) dX0_behindSlide_4 (by decide) ?_
      refine J_goto (pc := 5) (tgt := 9) dX0_behindSlide_5 (by decide) ?_
      refine J_topi (y := v1) (by rw [e2, if_neg c3]) ?_
      exact hJ
set_option maxHeartbeats 4000000 in
set_option maxRecDepth 100000 in
theorem k_X0_costOf {E : En} (a1 : Int32) (M : Wd) {r : Int32} (h : F_X0_costOf a1 M = some r) : Con E mi_X0_costOf [.ref 44, .int a1] M (.inl (some (.int r))) M := by
  unfold F_X0_costOf at h
  refine Con.of (by decide) rfl (Nat.le_of_ble_eq_true rfl) (fun κ => ?_)
  show J κ E mi_X0_costOf _ 0 0 [(0, .ref 44), (1, .int a1)] M 0 []
  refine J_aload_n (pc := 0) dX0_costOf_0 rfl 0 rfl ?_
  refine J_iload_n (pc := 1) dX0_costOf_1 rfl 1 rfl ?_
  obtain ⟨v1, hc2, h⟩ := obind_e h
  refine J_callV (g := mi_X0_exists) (ci := 0) (pc := 2) [.int a1] [] mv_X0_exists w_300 (k_X0_exists  a1 _ hc2) rfl (by decide) rfl rfl rfl ⟨⟨Nat.le_of_ble_eq_true rfl, Nat.le_of_ble_eq_true rfl⟩, Nat.le_of_ble_eq_true rfl, Nat.le_of_ble_eq_true rfl⟩ (Nat.le_of_ble_eq_true rfl) dX0_costOf_2 (Jk_v rfl rfl fun hok3 => ?_)
  refine J_if_eq (pc := 5) (tgt := 17) dX0_costOf_5 (by decide) (fun c4 => ?_) (fun c4 => ?_)
  · replace h := ifp c4 h
    refine J_iconst (v := (-1 : Int32)) (pc := 17) dX0_costOf_17 (by decide) ?_
    cases h
    exact J_ireturn dX0_costOf_18 rfl rfl rfl rfl rfl
  · replace h := ifn c4 h
    refine J_aload_n (pc := 8) dX0_costOf_8 rfl 0 rfl ?_
    refine get_44_2 (pc := 9) w_101 dX0_costOf_9 ?_
    refine J_iload_n (pc := 12) dX0_costOf_12 rfl 1 rfl ?_
    obtain ⟨v5, e6, hk7, h⟩ := ldi_e h
    refine J_iald (c := 47) (N := 4096) (pc := 13) ja_47 (Nat.le_of_ble_eq_true rfl) hk7 dX0_costOf_13 ?_
    refine J_topi e6 ?_
    refine J_goto (pc := 14) (tgt := 18) dX0_costOf_14 (by decide) ?_
    cases h
    exact J_ireturn dX0_costOf_18 rfl rfl rfl rfl rfl
set_option maxHeartbeats 4000000 in
set_option maxRecDepth 100000 in
theorem kL_X0_forget_L2 {κ : Kx} {E : En} {Q : State → Prop} {ρ : Type} {r : ρ} (K30 : Wd → Option ρ) (hK30 : ∀ (M : Wd), K30 M = some r → J κ E mi_X0_forget Q 0 0 [(0, .ref 44)] M 30 []) : ∀ (m : Nat) (x1 : Int32) (M : Wd), F_X0_forget_L2 K30 m x1 M = some r → J κ E mi_X0_forget Q 0 0 [(0, .ref 44), (1, .int x1)] M 2 [] := by
  intro m
  induction m with
  | zero => intro x1 M h; exact (nomatch (show (none : Option ρ) = some r from h))
  | succ m ih =>
    intro x1 M h
    unfold F_X0_forget_L2 at h
    refine J_iload_n (pc := 2) dX0_forget_2 rfl 1 rfl ?_
    refine J_aload_n (pc := 3) dX0_forget_3 rfl 0 rfl ?_
    refine get_44_7 (pc := 4) w_106 dX0_forget_4 ?_
    refine J_icmp_ge (pc := 7) (tgt := 30) dX0_forget_7 (by decide) (fun c1 => ?_) (fun c1 => ?_)
    · replace h := ifp c1 h
      refine J_sub [0] rfl ?_
      exact hK30 _ h
    · replace h := ifn c1 h
      refine J_iload_n (pc := 10) dX0_forget_10 rfl 1 rfl ?_
      refine J_sipush (v := (4096 : Int32)) (pc := 11) dX0_forget_11 (by decide) ?_
      refine J_icmp_ge (pc := 14) (tgt := 30) dX0_forget_14 (by decide) (fun c2 => ?_) (fun c2 => ?_)
      · replace h := ifp c2 h
        refine J_sub [0] rfl ?_
        exact hK30 _ h
      · replace h := ifn c2 h
        refine J_aload_n (pc := 17) dX0_forget_17 rfl 0 rfl ?_
        refine get_44_2 (pc := 18) w_101 dX0_forget_18 ?_
        refine J_iload_n (pc := 21) dX0_forget_21 rfl 1 rfl ?_
        refine J_iconst (v := (-1 : Int32)) (pc := 22) dX0_forget_22 (by decide) ?_
        obtain ⟨hk3, h⟩ := inb_e h
        refine J_iast (c := 47) (N := 4096) (pc := 23) (fun _ => ja_47) (Nat.le_of_ble_eq_true rfl) hk3 dX0_forget_23 ?_
        obtain ⟨v4, e5, h⟩ := bnd_e h
        refine J_iinc (v := v4) (pc := 24) dX0_forget_24 1 rfl (by rw [e5]; rfl) (Nat.le_of_ble_eq_true rfl) [1, 0] rfl ?_
        refine J_goto (pc := 27) (tgt := 2) dX0_forget_27 (by decide) ?_
        exact ih _ _ h
set_option maxHeartbeats 4000000 in
set_option maxRecDepth 100000 in
theorem k_X0_forget {E : En} (M : Wd) {M' : Wd} (h : F_X0_forget M = some M') : Con E mi_X0_forget [.ref 44] M (.inl none) M' := by
  unfold F_X0_forget at h
  refine Con.of (by decide) rfl (Nat.le_of_ble_eq_true rfl) (fun κ => ?_)
  show J κ E mi_X0_forget _ 0 0 [(0, .ref 44)] M 0 []
  refine J_iconst (v := (0 : Int32)) (pc := 0) dX0_forget_0 (by decide) ?_
  refine J_istore_n (pc := 1) dX0_forget_1 rfl (Nat.le_of_ble_eq_true rfl) [1, 0] rfl ?_
  refine kL_X0_forget_L2 _ (fun M6 h => ?_) fuelN _ _ h
  refine J_aload_n (pc := 30) dX0_forget_30 rfl 0 rfl ?_
  refine J_iconst (v := (0 : Int32)) (pc := 31) dX0_forget_31 (by decide) ?_
  refine put_44_9 (pc := 32) w_109 dX0_forget_32 ?_
  cases h
  exact J_return dX0_forget_35 rfl rfl rfl rfl rfl
set_option maxHeartbeats 4000000 in
set_option maxRecDepth 100000 in
theorem k_X0_find {E : En} (a1 : Int32) (a2 : Int32) (M : Wd) {M' : Wd} (h : F_X0_find a1 a2 M = some M') : Con E mi_X0_find [.ref 44, .int a1, .int a2] M (.inl none) M' := by
  unfold F_X0_find at h
  refine Con.of (by decide) rfl (Nat.le_of_ble_eq_true rfl) (fun κ => ?_)
  show J κ E mi_X0_find _ 0 0 [(0, .ref 44), (1, .int a1), (2, .int a2)] M 0 []
  refine J_iload_n (pc := 0) dX0_find_0 rfl 1 rfl ?_
  refine J_if_lt (pc := 1) (tgt := 22) dX0_find_1 (by decide) (fun c1 => ?_) (fun c1 => ?_)
  · replace h := ifp c1 h
    cases h
    exact J_return dX0_find_22 rfl rfl rfl rfl rfl
  · replace h := ifn c1 h
    refine J_iload_n (pc := 4) dX0_find_4 rfl 1 rfl ?_
    refine J_aload_n (pc := 5) dX0_find_5 rfl 0 rfl ?_
    refine get_44_7 (pc := 6) w_106 dX0_find_6 ?_
    refine J_icmp_ge (pc := 9) (tgt := 22) dX0_find_9 (by decide) (fun c2 => ?_) (fun c2 => ?_)
    · replace h := ifp c2 h
      cases h
      exact J_return dX0_find_22 rfl rfl rfl rfl rfl
    · replace h := ifn c2 h
      refine J_aload_n (pc := 12) dX0_find_12 rfl 0 rfl ?_
      refine get_44_1 (pc := 13) w_100 dX0_find_13 ?_
      refine J_iload_n (pc := 16) dX0_find_16 rfl 1 rfl ?_
      obtain ⟨v3, e4, hk5, h⟩ := ldi_e h
      refine J_iald (c := 46) (N := 4096) (pc := 17) ja_46 (Nat.le_of_ble_eq_true rfl) hk5 dX0_find_17 ?_
      refine J_topi e4 ?_
      refine J_iconst (v := (-1 : Int32)) (pc := 18) dX0_find_18 (by decide) ?_
      refine J_icmp_ne (pc := 19) (tgt := 23) dX0_find_19 (by decide) (fun c6 => ?_) (fun c6 => ?_)
      · replace h := ifn c6 h
        refine J_aload_n (pc := 23) dX0_find_23 rfl 0 rfl ?_
        refine get_44_2 (pc := 24) w_101 dX0_find_24 ?_
        refine J_iload_n (pc := 27) dX0_find_27 rfl 1 rfl ?_
        obtain ⟨v7, e8, hk9, h⟩ := ldi_e h
        refine J_iald (c := 47) (N := 4096) (pc := 28) ja_47 (Nat.le_of_ble_eq_true rfl) hk9 dX0_find_28 ?_
        refine J_topi e8 ?_
        refine J_iconst (v := (-1 : Int32)) (pc := 29) dX0_find_29 (by decide) ?_
        refine J_icmp_ne (pc := 30) (tgt := 77) dX0_find_30 (by decide) (fun c10 => ?_) (fun c10 => ?_)
        · replace h := ifn c10 h
          cases h
          exact J_return dX0_find_77 rfl rfl rfl rfl rfl
        · replace h := ifp c10 h
          refine J_aload_n (pc := 33) dX0_find_33 rfl 0 rfl ?_
          refine get_44_9 (pc := 34) w_109 dX0_find_34 ?_
          refine J_if_lt (pc := 37) (tgt := 77) dX0_find_37 (by decide) (fun c11 => ?_) (fun c11 => ?_)
          · replace h := ifp c11 h
            cases h
            exact J_return dX0_find_77 rfl rfl rfl rfl rfl
          · replace h := ifn c11 h
            refine J_aload_n (pc := 40) dX0_find_40 rfl 0 rfl ?_
            refine get_44_9 (pc := 41) w_109 dX0_find_41 ?_
            refine J_sipush (v := (4096 : Int32)) (pc := 44) dX0_find_44 (by decide) ?_
            refine J_icmp_ge (pc := 47) (tgt := 77) dX0_find_47 (by decide) (fun c12 => ?_) (fun c12 => ?_)
            · replace h := ifp c12 h
              cases h
              exact J_return dX0_find_77 rfl rfl rfl rfl rfl
            · replace h := ifn c12 h
              refine J_aload_n (pc := 50) dX0_find_50 rfl 0 rfl ?_
              refine get_44_2 (pc := 51) w_101 dX0_find_51 ?_
              refine J_iload_n (pc := 54) dX0_find_54 rfl 1 rfl ?_
              refine J_iload_n (pc := 55) dX0_find_55 rfl 2 rfl ?_
              obtain ⟨hk13, h⟩ := inb_e h
              refine J_iast (c := 47) (N := 4096) (pc := 56) (fun _ => ja_47) (Nat.le_of_ble_eq_true rfl) hk13 dX0_find_56 ?_
              refine J_aload_n (pc := 57) dX0_find_57 rfl 0 rfl ?_
              refine get_44_3 (pc := 58) w_102 dX0_find_58 ?_
              refine J_aload_n (pc := 61) dX0_find_61 rfl 0 rfl ?_
              refine get_44_9 (pc := 62) w_109 dX0_find_62 ?_
              refine J_topi (y := (M.1 44 9)) (Eq.symm (show (upI M 47 a1.toNatClampNeg a2).1 44 9 = (M.1 44 9) from (eI_ne (Nat.ne_of_beq_eq_false rfl) rfl))) ?_
              refine J_iload_n (pc := 65) dX0_find_65 rfl 1 rfl ?_
              obtain ⟨hk14, h⟩ := inb_e h
              refine J_iast (c := 48) (N := 4096) (pc := 66) (fun _ => ja_48) (Nat.le_of_ble_eq_true rfl) hk14 dX0_find_66 ?_
              refine J_aload_n (pc := 67) dX0_find_67 rfl 0 rfl ?_
              refine J_dup (pc := 68) dX0_find_68 rfl ?_
              refine get_44_9 (pc := 69) w_109 dX0_find_69 ?_
              refine J_topi (y := (M.1 44 9)) (Eq.symm (show (upI (upI M 47 a1.toNatClampNeg a2) 48 (M.1 44 9).toNatClampNeg a1).1 44 9 = (M.1 44 9) from (eI_ne (Nat.ne_of_beq_eq_false rfl) (eI_ne (Nat.ne_of_beq_eq_false rfl) rfl)))) ?_
              refine J_iconst (v := (1 : Int32)) (pc := 72) dX0_find_72 (by decide) ?_
              refine J_iadd (pc := 73) dX0_find_73 ?_
              refine put_44_9 (pc := 74) w_109 dX0_find_74 ?_
              cases h
              exact J_return dX0_find_77 rfl rfl rfl rfl rfl
      · replace h := ifp c6 h
        cases h
        exact J_return dX0_find_22 rfl rfl rfl rfl rfl
set_option maxHeartbeats 4000000 in
set_option maxRecDepth 100000 in
theorem kL_X0_spreadAlong_L12 {κ : Kx} {E : En} {Q : State → Prop} {ρ : Type} {r : ρ} (a2 : Int32) (a3 : Int32) (a4 : Int32) (a5 : Int32) (K49 : Wd → Option ρ) (hK49 : ∀ (M : Wd), K49 M = some r → J κ E mi_X0_spreadAlong Q 0 0 [] M 49 []) : ∀ (m : Nat) (x6 : Int32) (x7 : Int32) (M : Wd), F_X0_spreadAlong_L12 a2 a3 a4 a5 K49 m x6 x7 M = some r → J κ E mi_X0_spreadAlong Q 0 0 [(0, .ref 44), (2, .int a2), (3, .int a3), (4, .int a4), (5, .int a5), (6, .int x6), (7, .int x7)] M 12 [] := by
  intro m
  induction m with
  | zero => intro x6 x7 M h; exact (nomatch (show (none : Option ρ) = some r from h))
  | succ m ih =>
    intro x6 x7 M h
    unfold F_X0_spreadAlong_L12 at h
    refine J_iload (pc := 12) dX0_spreadAlong_12 6 rfl ?_
    refine J_iload (pc := 14) dX0_spreadAlong_14 3 rfl ?_
    refine J_icmp_gt (pc := 16) (tgt := 49) dX0_spreadAlong_16 (by decide) (fun c4 => ?_) (fun c4 => ?_)
    · replace h := ifp c4 h
      refine J_sub [] rfl ?_
      exact hK49 _ h
    · replace h := ifn c4 h
      refine J_iload (pc := 19) dX0_spreadAlong_19 5 rfl ?_
      refine J_iconst (v := (-1 : Int32)) (pc := 21) dX0_spreadAlong_21 (by decide) ?_
      refine J_icmp_eq (pc := 22) (tgt := 49) dX0_spreadAlong_22 (by decide) (fun c5 => ?_) (fun c5 => ?_)
      · replace h := ifp c5 h
        refine J_sub [] rfl ?_
        exact hK49 _ h
      · replace h := ifn c5 h
        refine J_aload_n (pc := 25) dX0_spreadAlong_25 rfl 0 rfl ?_
        refine J_iload (pc := 26) dX0_spreadAlong_26 5 rfl ?_
        refine J_iload (pc := 28) dX0_spreadAlong_28 4 rfl ?_
        obtain ⟨M6, hc7, h⟩ := obind_e h
        refine J_callV (g := mi_X0_find) (ci := 0) (pc := 30) [.int x6, .int a5] [] mv_X0_find w_288 (k_X0_find x6 a5 _ hc7) rfl (by decide) rfl rfl rfl ⟨⟨Nat.le_of_ble_eq_true rfl, Nat.le_of_ble_eq_true rfl⟩, Nat.le_of_ble_eq_true rfl, Nat.le_of_ble_eq_true rfl⟩ (Nat.le_of_ble_eq_true rfl) dX0_spreadAlong_30 (Jk_0 rfl rfl ?_)
        refine J_aload_n (pc := 33) dX0_spreadAlong_33 rfl 0 rfl ?_
        refine J_iload (pc := 34) dX0_spreadAlong_34 5 rfl ?_
        refine J_iload_n (pc := 36) dX0_spreadAlong_36 rfl 1 rfl ?_
        refine J_iload_n (pc := 37) dX0_spreadAlong_37 rfl 2 rfl ?_
        obtain ⟨v8, hc9, h⟩ := obind_e h
        refine J_callV (g := mi_X0_behindStep) (ci := 0) (pc := 38) [.int x6, .int a2, .int a3] [] mv_X0_behindStep w_308 (k_X0_behindStep  x6 a2 a3 _ hc9) rfl (by decide) rfl rfl rfl ⟨⟨Nat.le_of_ble_eq_true rfl, Nat.le_of_ble_eq_true rfl⟩, Nat.le_of_ble_eq_true rfl, Nat.le_of_ble_eq_true rfl⟩ (Nat.le_of_ble_eq_true rfl) dX0_spreadAlong_38 (Jk_v rfl rfl fun hok10 => ?_)
        refine J_istore (pc := 41) dX0_spreadAlong_41 (Nat.le_of_ble_eq_true rfl) [1, 2, 3, 4, 5, 0, 6] rfl ?_
        obtain ⟨v11, e12, h⟩ := bnd_e h
        refine J_iinc (v := v11) (pc := 43) dX0_spreadAlong_43 6 rfl (by rw [e12]; rfl) (Nat.le_of_ble_eq_true rfl) [1, 2, 3, 4, 5, 6, 0] rfl ?_
        refine J_LS [(0, .ref 44), (2, .int a2), (3, .int a3), (4, .int a4), (5, .int a5), (6, .int v8), (7, .int v11)] [] rfl rfl ?_
        refine J_goto (pc := 46) (tgt := 12) dX0_spreadAlong_46 (by decide) ?_
        exact ih _ _ _ h
set_option maxHeartbeats 4000000 in
set_option maxRecDepth 100000 in
theorem k_X0_spreadAlong {E : En} (a1 : Int32) (a2 : Int32) (a3 : Int32) (a4 : Int32) (a5 : Int32) (M : Wd) {M' : Wd} (h : F_X0_spreadAlong a1 a2 a3 a4 a5 M = some M') : Con E mi_X0_spreadAlong [.ref 44, .int a1, .int a2, .int a3, .int a4, .int a5] M (.inl none) M' := by
  unfold F_X0_spreadAlong at h
  refine Con.of (by decide) rfl (Nat.le_of_ble_eq_true rfl) (fun κ => ?_)
  show J κ E mi_X0_spreadAlong _ 0 0 [(0, .ref 44), (1, .int a1), (2, .int a2), (3, .int a3), (4, .int a4), (5, .int a5)] M 0 []
  refine J_aload_n (pc := 0) dX0_spreadAlong_0 rfl 0 rfl ?_
  refine J_iload_n (pc := 1) dX0_spreadAlong_1 rfl 1 rfl ?_
  refine J_iload_n (pc := 2) dX0_spreadAlong_2 rfl 2 rfl ?_
  refine J_iload_n (pc := 3) dX0_spreadAlong_3 rfl 3 rfl ?_
  obtain ⟨v1, hc2, h⟩ := obind_e h
  refine J_callV (g := mi_X0_behindStep) (ci := 0) (pc := 4) [.int a1, .int a2, .int a3] [] mv_X0_behindStep w_308 (k_X0_behindStep  a1 a2 a3 _ hc2) rfl (by decide) rfl rfl rfl ⟨⟨Nat.le_of_ble_eq_true rfl, Nat.le_of_ble_eq_true rfl⟩, Nat.le_of_ble_eq_true rfl, Nat.le_of_ble_eq_true rfl⟩ (Nat.le_of_ble_eq_true rfl) dX0_spreadAlong_4 (Jk_v rfl rfl fun hok3 => ?_)
  refine J_istore (pc := 7) dX0_spreadAlong_7 (Nat.le_of_ble_eq_true rfl) [1, 2, 3, 4, 5, 6, 0] rfl ?_
  refine J_iconst (v := (1 : Int32)) (pc := 9) dX0_spreadAlong_9 (by decide) ?_
  refine J_istore (pc := 10) dX0_spreadAlong_10 (Nat.le_of_ble_eq_true rfl) [1, 2, 3, 4, 5, 6, 7, 0] rfl ?_
  refine J_LS [(0, .ref 44), (1, .int a1), (2, .int a2), (3, .int a3), (4, .int a4), (5, .int a5), (6, .int v1), (7, .int (1 : Int32))] [] rfl rfl ?_
  refine J_sub [0, 2, 3, 4, 5, 6, 7] rfl ?_
  refine kL_X0_spreadAlong_L12 _ _ _ _ _ (fun M13 h => ?_) fuelN _ _ _ h
  cases h
  exact J_return dX0_spreadAlong_49 rfl rfl rfl rfl rfl
set_option maxHeartbeats 4000000 in
set_option maxRecDepth 100000 in
theorem kL_X0_spread_L33 {κ : Kx} {E : En} {Q : State → Prop} {ρ : Type} {r : ρ} (a1 : Int32) (a2 : Int32) (a3 : Int32) (K78 : Wd → Option ρ) (hK78 : ∀ (M : Wd), K78 M = some r → J κ E mi_X0_spread Q 0 0 [(0, .ref 44), (1, .int a1), (2, .int a2)] M 78 []) : ∀ (m : Nat) (x4 : Int32) (M : Wd), F_X0_spread_L33 a1 a2 a3 K78 m x4 M = some r → J κ E mi_X0_spread Q 0 0 [(0, .ref 44), (1, .int a1), (2, .int a2), (3, .int a3), (4, .int x4)] M 33 [] := by
  intro m
  induction m with
  | zero => intro x4 M h; exact (nomatch (show (none : Option ρ) = some r from h))
  | succ m ih =>
    intro x4 M h
    unfold F_X0_spread_L33 at h
    refine J_iload (pc := 33) dX0_spread_33 4 rfl ?_
    refine J_aload_n (pc := 35) dX0_spread_35 rfl 0 rfl ?_
    refine get_44_6 (pc := 36) w_105 dX0_spread_36 ?_
    refine J_icmp_ge (pc := 39) (tgt := 78) dX0_spread_39 (by decide) (fun c11 => ?_) (fun c11 => ?_)
    · replace h := ifp c11 h
      refine J_sub [0, 1, 2] rfl ?_
      exact hK78 _ h
    · replace h := ifn c11 h
      refine J_aload_n (pc := 42) dX0_spread_42 rfl 0 rfl ?_
      refine J_aload_n (pc := 43) dX0_spread_43 rfl 0 rfl ?_
      refine get_44_3 (pc := 44) w_102 dX0_spread_44 ?_
      refine J_iload_n (pc := 47) dX0_spread_47 rfl 2 rfl ?_
      obtain ⟨v12, e13, hk14, h⟩ := ldi_e h
      refine J_iald (c := 48) (N := 4096) (pc := 48) ja_48 (Nat.le_of_ble_eq_true rfl) hk14 dX0_spread_48 ?_
      refine J_topi e13 ?_
      refine J_iload (pc := 49) dX0_spread_49 4 rfl ?_
      refine J_iconst (v := (1 : Int32)) (pc := 51) dX0_spread_51 (by decide) ?_
      refine J_iload_n (pc := 52) dX0_spread_52 rfl 1 rfl ?_
      refine J_iload_n (pc := 53) dX0_spread_53 rfl 3 rfl ?_
      obtain ⟨M15, hc16, h⟩ := obind_e h
      refine J_callV (g := mi_X0_spreadAlong) (ci := 0) (pc := 54) [.int v12, .int x4, .int (1 : Int32), .int a1, .int a3] [] mv_X0_spreadAlong w_304 (k_X0_spreadAlong v12 x4 (1 : Int32) a1 a3 _ hc16) rfl (by decide) rfl rfl rfl ⟨⟨Nat.le_of_ble_eq_true rfl, Nat.le_of_ble_eq_true rfl⟩, Nat.le_of_ble_eq_true rfl, Nat.le_of_ble_eq_true rfl⟩ (Nat.le_of_ble_eq_true rfl) dX0_spread_54 (Jk_0 rfl rfl ?_)
      refine J_aload_n (pc := 57) dX0_spread_57 rfl 0 rfl ?_
      refine J_aload_n (pc := 58) dX0_spread_58 rfl 0 rfl ?_
      refine get_44_3 (pc := 59) w_102 dX0_spread_59 ?_
      refine J_iload_n (pc := 62) dX0_spread_62 rfl 2 rfl ?_
      obtain ⟨v17, e18, hk19, h⟩ := ldi_e h
      refine J_iald (c := 48) (N := 4096) (pc := 63) ja_48 (Nat.le_of_ble_eq_true rfl) hk19 dX0_spread_63 ?_
      refine J_topi e18 ?_
      refine J_iload (pc := 64) dX0_spread_64 4 rfl ?_
      refine J_iconst (v := (-1 : Int32)) (pc := 66) dX0_spread_66 (by decide) ?_
      refine J_iload_n (pc := 67) dX0_spread_67 rfl 1 rfl ?_
      refine J_iload_n (pc := 68) dX0_spread_68 rfl 3 rfl ?_
      obtain ⟨M20, hc21, h⟩ := obind_e h
      refine J_callV (g := mi_X0_spreadAlong) (ci := 0) (pc := 69) [.int v17, .int x4, .int (-1 : Int32), .int a1, .int a3] [] mv_X0_spreadAlong w_304 (k_X0_spreadAlong v17 x4 (-1 : Int32) a1 a3 _ hc21) rfl (by decide) rfl rfl rfl ⟨⟨Nat.le_of_ble_eq_true rfl, Nat.le_of_ble_eq_true rfl⟩, Nat.le_of_ble_eq_true rfl, Nat.le_of_ble_eq_true rfl⟩ (Nat.le_of_ble_eq_true rfl) dX0_spread_69 (Jk_0 rfl rfl ?_)
      obtain ⟨v22, e23, h⟩ := bnd_e h
      refine J_iinc (v := v22) (pc := 72) dX0_spread_72 4 rfl (by rw [e23]; rfl) (Nat.le_of_ble_eq_true rfl) [1, 2, 3, 4, 0] rfl ?_
      refine J_goto (pc := 75) (tgt := 33) dX0_spread_75 (by decide) ?_
      exact ih _ _ h
set_option maxHeartbeats 4000000 in
set_option maxRecDepth 100000 in
theorem kL_X0_spread_L2 {κ : Kx} {E : En} {Q : State → Prop} {ρ : Type} {r : ρ} (a1 : Int32) (K84 : Wd → Option ρ) (hK84 : ∀ (M : Wd), K84 M = some r → J κ E mi_X0_spread Q 0 0 [] M 84 []) : ∀ (m : Nat) (x2 : Int32) (M : Wd), F_X0_spread_L2 a1 K84 m x2 M = some r → J κ E mi_X0_spread Q 0 0 [(0, .ref 44), (1, .int a1), (2, .int x2)] M 2 [] := by
  intro m
  induction m with
  | zero => intro x2 M h; exact (nomatch (show (none : Option ρ) = some r from h))
  | succ m ih =>
    intro x2 M h
    unfold F_X0_spread_L2 at h
    refine J_iload_n (pc := 2) dX0_spread_2 rfl 2 rfl ?_
    refine J_aload_n (pc := 3) dX0_spread_3 rfl 0 rfl ?_
    refine get_44_9 (pc := 4) w_109 dX0_spread_4 ?_
    refine J_icmp_ge (pc := 7) (tgt := 84) dX0_spread_7 (by decide) (fun c1 => ?_) (fun c1 => ?_)
    · replace h := ifp c1 h
      refine J_sub [] rfl ?_
      exact hK84 _ h
    · replace h := ifn c1 h
      refine J_iload_n (pc := 10) dX0_spread_10 rfl 2 rfl ?_
      refine J_sipush (v := (4096 : Int32)) (pc := 11) dX0_spread_11 (by decide) ?_
      refine J_icmp_ge (pc := 14) (tgt := 84) dX0_spread_14 (by decide) (fun c2 => ?_) (fun c2 => ?_)
      · replace h := ifp c2 h
        refine J_sub [] rfl ?_
        exact hK84 _ h
      · replace h := ifn c2 h
        refine J_aload_n (pc := 17) dX0_spread_17 rfl 0 rfl ?_
        refine J_aload_n (pc := 18) dX0_spread_18 rfl 0 rfl ?_
        refine get_44_3 (pc := 19) w_102 dX0_spread_19 ?_
        refine J_iload_n (pc := 22) dX0_spread_22 rfl 2 rfl ?_
        obtain ⟨v3, e4, hk5, h⟩ := ldi_e h
        refine J_iald (c := 48) (N := 4096) (pc := 23) ja_48 (Nat.le_of_ble_eq_true rfl) hk5 dX0_spread_23 ?_
        refine J_topi e4 ?_
        obtain ⟨v6, hc7, h⟩ := obind_e h
        refine J_callV (g := mi_X0_costOf) (ci := 0) (pc := 24) [.int v3] [] mv_X0_costOf w_296 (k_X0_costOf  v3 _ hc7) rfl (by decide) rfl rfl rfl ⟨⟨Nat.le_of_ble_eq_true rfl, Nat.le_of_ble_eq_true rfl⟩, Nat.le_of_ble_eq_true rfl, Nat.le_of_ble_eq_true rfl⟩ (Nat.le_of_ble_eq_true rfl) dX0_spread_24 (Jk_v rfl rfl fun hok8 => ?_)
        refine J_iconst (v := (1 : Int32)) (pc := 27) dX0_spread_27 (by decide) ?_
        refine J_iadd (pc := 28) dX0_spread_28 ?_
        obtain ⟨v9, e10, h⟩ := bnd_e h
        refine J_topi e10 ?_
        refine J_istore_n (pc := 29) dX0_spread_29 rfl (Nat.le_of_ble_eq_true rfl) [1, 2, 3, 0] rfl ?_
        refine J_iconst (v := (0 : Int32)) (pc := 30) dX0_spread_30 (by decide) ?_
        refine J_istore (pc := 31) dX0_spread_31 (Nat.le_of_ble_eq_true rfl) [1, 2, 3, 4, 0] rfl ?_
        refine J_LS [(0, .ref 44), (1, .int a1), (2, .int x2), (3, .int v9), (4, .int (0 : Int32))] [] rfl rfl ?_
        refine kL_X0_spread_L33 _ _ _ _ (fun M24 h => ?_) fuelN _ _ h
        obtain ⟨v25, e26, h⟩ := bnd_e h
        refine J_iinc (v := v25) (pc := 78) dX0_spread_78 2 rfl (by rw [e26]; rfl) (Nat.le_of_ble_eq_true rfl) [1, 2, 0] rfl ?_
        refine J_goto (pc := 81) (tgt := 2) dX0_spread_81 (by decide) ?_
        exact ih _ _ h
set_option maxHeartbeats 4000000 in
set_option maxRecDepth 100000 in
theorem k_X0_spread {E : En} (a1 : Int32) (M : Wd) {M' : Wd} (h : F_X0_spread a1 M = some M') : Con E mi_X0_spread [.ref 44, .int a1] M (.inl none) M' := by
  unfold F_X0_spread at h
  refine Con.of (by decide) rfl (Nat.le_of_ble_eq_true rfl) (fun κ => ?_)
  show J κ E mi_X0_spread _ 0 0 [(0, .ref 44), (1, .int a1)] M 0 []
  refine J_iconst (v := (0 : Int32)) (pc := 0) dX0_spread_0 (by decide) ?_
  refine J_istore_n (pc := 1) dX0_spread_1 rfl (Nat.le_of_ble_eq_true rfl) [1, 2, 0] rfl ?_
  refine kL_X0_spread_L2 _ _ (fun M27 h => ?_) fuelN _ _ h
  cases h
  exact J_return dX0_spread_84 rfl rfl rfl rfl rfl

/-! ===== walks of the methods, 1 ===== -/
theorem k_X3_copy {E : En} (b a : Nat) (M : Wd) {M' : Wd} (h : F_X3_copy b a M = some M') : Con E mi_X3_copy [.ref b, .ref a] M (.inl none) M' := sorry
set_option maxHeartbeats 4000000 in
set_option maxRecDepth 100000 in
theorem k_J9_max_7cf53 {E : En} (a0 : Int32) (a1 : Int32) (M : Wd) : Con E mi_J9_max_7cf53 [.int a0, .int a1] M (.inl (some (.int (F_J9_max_7cf53 a0 a1)))) M := by
  obtain ⟨r, h⟩ : ∃ r, F_J9_max_7cf53 a0 a1 = r := ⟨_, rfl⟩
  rw [h]
  unfold F_J9_max_7cf53 at h
  refine Con.of (by decide) rfl (by decide) (fun κ => ?_)
  show J κ E mi_J9_max_7cf53 _ 0 0 [(0, .int a0), (1, .int a1)] M 0 []
  refine J_iload_n (pc := 0) dJ9_max_7cf53_0 rfl 0 rfl ?_
  refine J_iload_n (pc := 1) dJ9_max_7cf53_1 rfl 1 rfl ?_
  refine J_icmp_lt (pc := 2) (tgt := 9) dJ9_max_7cf53_2 (by decide) (fun c1 => ?_) (fun c1 => ?_)
  · replace h := ifp c1 h
    refine J_iload_n (pc := 9) dJ9_max_7cf53_9 rfl 1 rfl ?_
    subst h
    exact J_ireturn dJ9_max_7cf53_10 rfl rfl rfl rfl rfl
  · replace h := ifn c1 h
    refine J_iload_n (pc := 5) dJ9_max_7cf53_5 rfl 0 rfl ?_
    refine J_goto (pc := 6) (tgt := 10) dJ9_max_7cf53_6 (by decide) ?_
    subst h
    exact J_ireturn dJ9_max_7cf53_10 rfl rfl rfl rfl rfl
set_option maxHeartbeats 4000000 in
set_option maxRecDepth 100000 in
theorem k_J9_min_7cf53 {E : En} (a0 : Int32) (a1 : Int32) (M : Wd) : Con E mi_J9_min_7cf53 [.int a0, .int a1] M (.inl (some (.int (F_J9_min_7cf53 a0 a1)))) M := by
  obtain ⟨r, h⟩ : ∃ r, F_J9_min_7cf53 a0 a1 = r := ⟨_, rfl⟩
  rw [h]
  unfold F_J9_min_7cf53 at h
  refine Con.of (by decide) rfl (by decide) (fun κ => ?_)
  show J κ E mi_J9_min_7cf53 _ 0 0 [(0, .int a0), (1, .int a1)] M 0 []
  refine J_iload_n (pc := 0) dJ9_min_7cf53_0 rfl 0 rfl ?_
  refine J_iload_n (pc := 1) dJ9_min_7cf53_1 rfl 1 rfl ?_
  refine J_icmp_gt (pc := 2) (tgt := 9) dJ9_min_7cf53_2 (by decide) (fun c1 => ?_) (fun c1 => ?_)
  · replace h := ifp c1 h
    refine J_iload_n (pc := 9) dJ9_min_7cf53_9 rfl 1 rfl ?_
    subst h
    exact J_ireturn dJ9_min_7cf53_10 rfl rfl rfl rfl rfl
  · replace h := ifn c1 h
    refine J_iload_n (pc := 5) dJ9_min_7cf53_5 rfl 0 rfl ?_
    refine J_goto (pc := 6) (tgt := 10) dJ9_min_7cf53_6 (by decide) ?_
    subst h
    exact J_ireturn dJ9_min_7cf53_10 rfl rfl rfl rfl rfl
set_option maxHeartbeats 4000000 in
set_option maxRecDepth 100000 in
theorem k_X0_together {E : En} (a0 : Int32) (a1 : Int32) (M : Wd) : Con E mi_X0_together [.int a0, .int a1] M (.inl (some (.int (F_X0_together a0 a1)))) M := by
  obtain ⟨r, h⟩ : ∃ r, F_X0_together a0 a1 = r := ⟨_, rfl⟩
  rw [h]
  unfold F_X0_together at h
  refine Con.of (by decide) rfl (by decide) (fun κ => ?_)
  show J κ E mi_X0_together _ 0 0 [(0, .int a0), (1, .int a1)] M 0 []
  refine J_iload_n (pc := 0) dX0_together_0 rfl 0 rfl ?_
  refine J_iconst (v := (-1 : Int32)) (pc := 1) dX0_together_1 (by decide) ?_
  obtain ⟨v1, e2, h⟩ := bnd_e h
  have hb6 : isB v1 := by rw [e2]; repeat (first | exact Or.inl rfl | exact Or.inr rfl | assumption | exact okB_b (by assumption) | apply isB_ite)
  refine J_join [(0, .int a0), (1, .int a1)] M 21 [.int v1] ?_ (fun hJ => ?_)
  · refine J_istore_n (pc := 21) dX0_together_21 rfl (Nat.le_of_ble_eq_true rfl) [1, 2, 0] rfl ?_
    refine J_iload_n (pc := 22) dX0_together_22 rfl 2 rfl ?_
    refine J_if_eq (pc := 23) (tgt := 32) dX0_together_23 (by decide) (fun c7 => ?_) (fun c7 => ?_)
    · replace h := ifp c7 h
      refine J_iconst (v := (-1 : Int32)) (pc := 32) dX0_together_32 (by decide) ?_
      subst h
      exact J_ireturn dX0_together_33 rfl rfl rfl rfl rfl
    · replace h := ifn c7 h
      refine J_iload_n (pc := 26) dX0_together_26 rfl 0 rfl ?_
      refine J_iload_n (pc := 27) dX0_together_27 rfl 1 rfl ?_
      refine J_ior (pc := 28) dX0_together_28 ?_
      refine J_goto (pc := 29) (tgt := 33) dX0_together_29 (by decide) ?_
      subst h
      exact J_ireturn dX0_together_33 rfl rfl rfl rfl rfl
  · refine J_icmp_eq (pc := 2) (tgt := 20) dX0_together_2 (by decide) (fun c3 => ?_) (fun c3 => ?_)
    · refine J_iconst (v := (0 : Int32)) (pc := 20) dX0_together_20 (by decide) ?_
      refine J_topi (by rw [e2, if_pos c3]) ?_
      exact hJ
    · refine J_iload_n (pc := 5) dX0_together_5 rfl 1 rfl ?_
      refine J_iconst (v := (-1 : Int32)) (pc := 6) dX0_together_6 (by decide) ?_
      refine J_icmp_eq (pc := 7) (tgt := 20) dX0_together_7 (by decide) (fun c4 => ?_) (fun c4 => ?_)
      · refine J_iconst (v := (0 : Int32)) (pc := 20) dX0_together_20 (by decide) ?_
        refine J_topi (by rw [e2, if_neg c3, if_pos c4]) ?_
        exact hJ
      · refine J_iload_n (pc := 10) dX0_together_10 rfl 0 rfl ?_
        refine J_iload_n (pc := 11) dX0_together_11 rfl 1 rfl ?_
        refine J_iand (pc := 12) dX0_together_12 ?_
        refine J_if_ne (pc := 13) (tgt := 20) dX0_together_13 (by decide) (fun c5 => ?_) (fun c5 => ?_)
        · refine J_iconst (v := (0 : Int32)) (pc := 20) dX0_together_20 (by decide) ?_
          refine J_topi (by rw [e2, if_neg c3, if_neg c4, if_neg c5]) ?_
          exact hJ
        · refine J_iconst (v := (1 : Int32)) (pc := 16) dX0_together_16 (by decide) ?_
          refine J_goto (pc := 17) (tgt := 21) dX0_together_17 (by decide) ?_
          refine J_topi (by rw [e2, if_neg c3, if_neg c4, if_pos c5]) ?_
          exact hJ
set_option maxHeartbeats 4000000 in
set_option maxRecDepth 100000 in
theorem k_X3_cellsOf {E : En} (a0 : Int32) (a1 : Int32) (a2 : Int32) (M : Wd) : Con E mi_X3_cellsOf [.int a0, .int a1, .int a2] M (.inl (some (.int (F_X3_cellsOf a0 a1 a2)))) M := by
  obtain ⟨r, h⟩ : ∃ r, F_X3_cellsOf a0 a1 a2 = r := ⟨_, rfl⟩
  rw [h]
  unfold F_X3_cellsOf at h
  refine Con.of (by decide) rfl (by decide) (fun κ => ?_)
  show J κ E mi_X3_cellsOf _ 0 0 [(0, .int a0), (1, .int a1), (2, .int a2)] M 0 []
  refine J_iload_n (pc := 0) dX3_cellsOf_0 rfl 0 rfl ?_
  refine J_iconst (v := (5 : Int32)) (pc := 1) dX3_cellsOf_1 (by decide) ?_
  refine J_icmp_ge (pc := 2) (tgt := 17) dX3_cellsOf_2 (by decide) (fun c1 => ?_) (fun c1 => ?_)
  · replace h := ifp c1 h
    refine J_ldcw (pc := 17) w_344 dX3_cellsOf_17 ?_
    refine J_iconst (v := (1 : Int32)) (pc := 20) dX3_cellsOf_20 (by decide) ?_
    refine J_iconst (v := (5 : Int32)) (pc := 21) dX3_cellsOf_21 (by decide) ?_
    refine J_iload_n (pc := 22) dX3_cellsOf_22 rfl 2 rfl ?_
    refine J_imul (pc := 23) dX3_cellsOf_23 ?_
    refine J_ishl (pc := 24) dX3_cellsOf_24 ?_
    refine J_iconst (v := (1 : Int32)) (pc := 25) dX3_cellsOf_25 (by decide) ?_
    refine J_isub (pc := 26) dX3_cellsOf_26 ?_
    refine J_iand (pc := 27) dX3_cellsOf_27 ?_
    refine J_iconst (v := (5 : Int32)) (pc := 28) dX3_cellsOf_28 (by decide) ?_
    refine J_iload_n (pc := 29) dX3_cellsOf_29 rfl 1 rfl ?_
    refine J_imul (pc := 30) dX3_cellsOf_30 ?_
    refine J_iload_n (pc := 31) dX3_cellsOf_31 rfl 0 rfl ?_
    refine J_iadd (pc := 32) dX3_cellsOf_32 ?_
    refine J_iconst (v := (5 : Int32)) (pc := 33) dX3_cellsOf_33 (by decide) ?_
    refine J_isub (pc := 34) dX3_cellsOf_34 ?_
    refine J_ishl (pc := 35) dX3_cellsOf_35 ?_
    subst h
    exact J_ireturn dX3_cellsOf_36 rfl rfl rfl rfl rfl
  · replace h := ifn c1 h
    refine J_iconst (v := (1 : Int32)) (pc := 5) dX3_cellsOf_5 (by decide) ?_
    refine J_iload_n (pc := 6) dX3_cellsOf_6 rfl 2 rfl ?_
    refine J_ishl (pc := 7) dX3_cellsOf_7 ?_
    refine J_iconst (v := (1 : Int32)) (pc := 8) dX3_cellsOf_8 (by decide) ?_
    refine J_isub (pc := 9) dX3_cellsOf_9 ?_
    refine J_iconst (v := (5 : Int32)) (pc := 10) dX3_cellsOf_10 (by decide) ?_
    refine J_iload_n (pc := 11) dX3_cellsOf_11 rfl 0 rfl ?_
    refine J_imul (pc := 12) dX3_cellsOf_12 ?_
    refine J_iload_n (pc := 13) dX3_cellsOf_13 rfl 1 rfl ?_
    refine J_iadd (pc := 14) dX3_cellsOf_14 ?_
    refine J_ishl (pc := 15) dX3_cellsOf_15 ?_
    subst h
    exact J_ireturn dX3_cellsOf_16 rfl rfl rfl rfl rfl
set_option maxHeartbeats 4000000 in
set_option maxRecDepth 100000 in
theorem kL_X0_addToTable_L37 {κ : Kx} {E : En} {Q : State → Prop} {k n : Nat} {ρ : Type} {r : ρ} (a1 : Int32) (a2 : Int32) (a3 : Int32) (a4 : Int32) (a5 : Int32) (K86 : Wd → Option ρ) (hK86 : ∀ (M : Wd), K86 M = some r → J κ E mi_X0_addToTable Q k n [(0, .ref 44), (1, .int a1), (2, .int a2), (3, .int a3), (4, .int a4)] M 86 []) : ∀ (m : Nat) (x6 : Int32) (M : Wd), F_X0_addToTable_L37 a1 a2 a3 a4 a5 K86 m x6 M = some r → J κ E mi_X0_addToTable Q k n [(0, .ref 44), (1, .int a1), (2, .int a2), (3, .int a3), (4, .int a4), (5, .int a5), (6, .int x6)] M 37 [] := by
  intro m
  induction m with
  | zero => intro x6 M h; exact (nomatch (show (none : Option ρ) = some r from h))
  | succ m ih =>
    intro x6 M h
    unfold F_X0_addToTable_L37 at h
    refine J_iload (pc := 37) dX0_addToTable_37 6 rfl ?_
    refine J_iload_n (pc := 39) dX0_addToTable_39 rfl 3 rfl ?_
    refine J_icmp_ge (pc := 40) (tgt := 86) dX0_addToTable_40 (by decide) (fun c8 => ?_) (fun c8 => ?_)
    · replace h := ifp c8 h
      refine J_sub [0, 1, 2, 3, 4] rfl ?_
      exact hK86 _ h
    · replace h := ifn c8 h
      refine J_iload_n (pc := 43) dX0_addToTable_43 rfl 3 rfl ?_
      refine J_iload (pc := 44) dX0_addToTable_44 4 rfl ?_
      refine J_imul (pc := 46) dX0_addToTable_46 ?_
      refine J_iload (pc := 47) dX0_addToTable_47 6 rfl ?_
      refine J_iadd (pc := 49) dX0_addToTable_49 ?_
      refine J_sipush (v := (4096 : Int32)) (pc := 50) dX0_addToTable_50 (by decide) ?_
      refine J_icmp_ge (pc := 53) (tgt := 86) dX0_addToTable_53 (by decide) (fun c9 => ?_) (fun c9 => ?_)
      · replace h := ifp c9 h
        refine J_sub [0, 1, 2, 3, 4] rfl ?_
        exact hK86 _ h
      · replace h := ifn c9 h
        refine J_aload_n (pc := 56) dX0_addToTable_56 rfl 0 rfl ?_
        refine J_get (c := 44) (ci := 0) (v := .ref 46) (pc := 57) rfl (by decide) rfl lay_X0 1 (by decide) w_162 rfl rfl dX0_addToTable_57 ?_
        refine J_iload_n (pc := 60) dX0_addToTable_60 rfl 3 rfl ?_
        refine J_iload (pc := 61) dX0_addToTable_61 4 rfl ?_
        refine J_imul (pc := 63) dX0_addToTable_63 ?_
        refine J_iload (pc := 64) dX0_addToTable_64 6 rfl ?_
        refine J_iadd (pc := 66) dX0_addToTable_66 ?_
        refine J_aload_n (pc := 67) dX0_addToTable_67 rfl 0 rfl ?_
        refine J_get (c := 44) (ci := 0) (v := .ref 46) (pc := 68) rfl (by decide) rfl lay_X0 1 (by decide) w_162 rfl rfl dX0_addToTable_68 ?_
        refine J_iload (pc := 71) dX0_addToTable_71 6 rfl ?_
        obtain ⟨v10, e11, hk12, h⟩ := ldi_e h
        refine J_iald (c := 46) (N := 4096) (pc := 73) rfl (by decide) hk12 dX0_addToTable_73 ?_
        refine J_topi e11 ?_
        refine J_iload (pc := 74) dX0_addToTable_74 5 rfl ?_
        refine J_callS (g := mi_X0_together) (pc := 76) [.int v10, .int a5] [.int ((a3 * a4) + x6), .ref 46] ms_X0_together w_415 (k_X0_together v10 a5 _) rfl rfl ⟨⟨Nat.le_of_ble_eq_true rfl, Nat.le_of_ble_eq_true rfl⟩, Nat.le_of_ble_eq_true rfl, Nat.le_of_ble_eq_true rfl⟩ (Nat.le_of_ble_eq_true rfl) dX0_addToTable_76 (Jk_v rfl rfl fun hok13 => ?_)
        obtain ⟨hk14, h⟩ := inb_e h
        refine J_iast (c := 46) (N := 4096) (pc := 79) (fun _ => rfl) (by decide) hk14 dX0_addToTable_79 ?_
        obtain ⟨v15, e16, h⟩ := bnd_e h
        refine J_iinc (v := v15) (pc := 80) dX0_addToTable_80 6 rfl (by rw [e16]; rfl) (Nat.le_of_ble_eq_true rfl) [1, 2, 3, 4, 5, 6, 0] rfl ?_
        refine J_goto (pc := 83) (tgt := 37) dX0_addToTable_83 (by decide) ?_
        exact ih _ _ h
set_option maxHeartbeats 4000000 in
set_option maxRecDepth 100000 in
theorem kL_X0_addToTable_L8 {κ : Kx} {E : En} {Q : State → Prop} {k n : Nat} {ρ : Type} {r : ρ} (a1 : Int32) (a2 : Int32) (a3 : Int32) (K92 : Wd → Option ρ) (hK92 : ∀ (M : Wd), K92 M = some r → J κ E mi_X0_addToTable Q k n [(0, .ref 44), (3, .int a3)] M 92 []) : ∀ (m : Nat) (x4 : Int32) (M : Wd), F_X0_addToTable_L8 a1 a2 a3 K92 m x4 M = some r → J κ E mi_X0_addToTable Q k n [(0, .ref 44), (1, .int a1), (2, .int a2), (3, .int a3), (4, .int x4)] M 8 [] := by
  intro m
  induction m with
  | zero => intro x4 M h; exact (nomatch (show (none : Option ρ) = some r from h))
  | succ m ih =>
    intro x4 M h
    unfold F_X0_addToTable_L8 at h
    refine J_iload (pc := 8) dX0_addToTable_8 4 rfl ?_
    refine J_if_lt (pc := 10) (tgt := 92) dX0_addToTable_10 (by decide) (fun c3 => ?_) (fun c3 => ?_)
    · replace h := ifp c3 h
      refine J_sub [0, 3] rfl ?_
      exact hK92 _ h
    · replace h := ifn c3 h
      refine J_iload (pc := 13) dX0_addToTable_13 4 rfl ?_
      refine J_iload_n (pc := 15) dX0_addToTable_15 rfl 2 rfl ?_
      refine J_iadd (pc := 16) dX0_addToTable_16 ?_
      refine J_iconst (v := (5 : Int32)) (pc := 17) dX0_addToTable_17 (by decide) ?_
      obtain ⟨v4, e5, h⟩ := bnd_e h
      refine J_join [(0, .ref 44), (1, .int a1), (2, .int a2), (3, .int a3), (4, .int x4)] M 32 [.int v4] ?_ (fun hJ => ?_)
      · refine J_istore (pc := 32) dX0_addToTable_32 (Nat.le_of_ble_eq_true rfl) [1, 2, 3, 4, 5, 0] rfl ?_
        refine J_iconst (v := (0 : Int32)) (pc := 34) dX0_addToTable_34 (by decide) ?_
        refine J_istore (pc := 35) dX0_addToTable_35 (Nat.le_of_ble_eq_true rfl) [1, 2, 3, 4, 5, 6, 0] rfl ?_
        refine kL_X0_addToTable_L37 _ _ _ _ _ _ (fun M17 h => ?_) fuelN _ _ h
        obtain ⟨v18, e19, h⟩ := bnd_e h
        refine J_iinc (v := v18) (pc := 86) dX0_addToTable_86 4 rfl (by rw [e19]; rfl) (Nat.le_of_ble_eq_true rfl) [1, 2, 3, 4, 0] rfl ?_
        refine J_goto (pc := 89) (tgt := 8) dX0_addToTable_89 (by decide) ?_
        exact ih _ _ h
      · refine J_icmp_gt (pc := 18) (tgt := 31) dX0_addToTable_18 (by decide) (fun c6 => ?_) (fun c6 => ?_)
        · refine J_iconst (v := (-1 : Int32)) (pc := 31) dX0_addToTable_31 (by decide) ?_
          refine J_topi (by rw [e5, if_pos c6]) ?_
          exact hJ
        · refine J_iload_n (pc := 21) dX0_addToTable_21 rfl 1 rfl ?_
          refine J_iload (pc := 22) dX0_addToTable_22 4 rfl ?_
          refine J_iload_n (pc := 24) dX0_addToTable_24 rfl 2 rfl ?_
          refine J_callSN (g := mi_X3_cellsOf) (pc := 25) [.int a1, .int x4, .int a2] [] ms_X3_cellsOf w_414 (k_X3_cellsOf a1 x4 a2 _) rfl rfl ⟨⟨Nat.le_of_ble_eq_true rfl, Nat.le_of_ble_eq_true rfl⟩, Nat.le_of_ble_eq_true rfl, Nat.le_of_ble_eq_true rfl⟩ (Nat.le_of_ble_eq_true rfl) dX0_addToTable_25 (Jk_v rfl rfl fun hok7 => ?_)
          refine J_goto (pc := 28) (tgt := 32) dX0_addToTable_28 (by decide) ?_
          refine J_topi (by rw [e5, if_neg c6]) ?_
          exact hJ
set_option maxHeartbeats 4000000 in
set_option maxRecDepth 100000 in
theorem k_X0_addToTable {E : En} (a1 : Int32) (a2 : Int32) (M : Wd) {M' : Wd} (h : F_X0_addToTable a1 a2 M = some M') : Con E mi_X0_addToTable [.ref 44, .int a1, .int a2] M (.inl none) M' := by
  unfold F_X0_addToTable at h
  refine Con.of (by decide) rfl (by decide) (fun κ => ?_)
  show J κ E mi_X0_addToTable _ 0 0 [(0, .ref 44), (1, .int a1), (2, .int a2)] M 0 []
  refine J_aload_n (pc := 0) dX0_addToTable_0 rfl 0 rfl ?_
  refine J_get (c := 44) (ci := 0) (v := .int (M.1 44 7)) (pc := 1) rfl (by decide) rfl lay_X0 7 (by decide) w_168 rfl rfl dX0_addToTable_1 ?_
  obtain ⟨v1, e2, h⟩ := bnd_e h
  refine J_topi e2 ?_
  refine J_istore_n (pc := 4) dX0_addToTable_4 rfl (Nat.le_of_ble_eq_true rfl) [1, 2, 3, 0] rfl ?_
  refine J_iconst (v := (3 : Int32)) (pc := 5) dX0_addToTable_5 (by decide) ?_
  refine J_istore (pc := 6) dX0_addToTable_6 (Nat.le_of_ble_eq_true rfl) [1, 2, 3, 4, 0] rfl ?_
  refine kL_X0_addToTable_L8 _ _ _ _ (fun M20 h => ?_) fuelN _ _ h
  refine J_aload_n (pc := 92) dX0_addToTable_92 rfl 0 rfl ?_
  refine J_iload_n (pc := 93) dX0_addToTable_93 rfl 1 rfl ?_
  refine J_iconst (v := (4 : Int32)) (pc := 94) dX0_addToTable_94 (by decide) ?_
  refine J_imul (pc := 95) dX0_addToTable_95 ?_
  refine J_sipush (v := (4096 : Int32)) (pc := 96) dX0_addToTable_96 (by decide) ?_
  refine J_callS (g := mi_J9_min_7cf53) (pc := 99) [.int (v1 * (4 : Int32)), .int (4096 : Int32)] [.ref 44] ms_J9_min_7cf53 w_404 (k_J9_min_7cf53 (v1 * (4 : Int32)) (4096 : Int32) _) rfl rfl ⟨⟨Nat.le_of_ble_eq_true rfl, Nat.le_of_ble_eq_true rfl⟩, Nat.le_of_ble_eq_true rfl, Nat.le_of_ble_eq_true rfl⟩ (Nat.le_of_ble_eq_true rfl) dX0_addToTable_99 (Jk_v rfl rfl fun hok21 => ?_)
  refine J_put (c := 44) (ci := 0) (M' := (upI M20 44 7 (F_J9_min_7cf53 (v1 * (4 : Int32)) (4096 : Int32)))) (pc := 102) rfl (by decide) rfl lay_X0 tyX0 tyX0_ok nmX0 7 (by decide) w_168 rfl rfl rfl rfl (Nat.le_of_ble_eq_true rfl) rfl jc_ne_I dX0_addToTable_102 ?_
  cases h
  exact J_return dX0_addToTable_105 rfl rfl rfl rfl rfl
set_option maxHeartbeats 4000000 in
set_option maxRecDepth 100000 in
theorem kL_X0_load_1_L34 {κ : Kx} {E : En} {Q : State → Prop} {k n : Nat} {ρ : Type} {r : ρ} (K109 : Wd → Option ρ) (hK109 : ∀ (M : Wd), K109 M = some r → J κ E mi_X0_load Q k n [] M 109 []) : ∀ (m : Nat) (x4 : Int32) (M : Wd), F_X0_load_1_L34 K109 m x4 M = some r → J κ E mi_X0_load Q k n [(0, .ref 44), (1, .ref 1), (4, .int x4)] M 34 [] := by
  intro m
  induction m with
  | zero => intro x4 M h; exact (nomatch (show (none : Option ρ) = some r from h))
  | succ m ih =>
    intro x4 M h
    unfold F_X0_load_1_L34 at h
    refine J_iload (pc := 34) dX0_load_34 2 rfl ?_
    refine J_aload_n (pc := 36) dX0_load_36 rfl 0 rfl ?_
    refine J_get (c := 44) (ci := 0) (v := .int (M.1 44 6)) (pc := 37) rfl (by decide) rfl lay_X0 6 (by decide) w_167 rfl rfl dX0_load_37 ?_
    refine J_icmp_ge (pc := 40) (tgt := 109) dX0_load_40 (by decide) (fun c3 => ?_) (fun c3 => ?_)
    · replace h := ifp c3 h
      refine J_sub [] rfl ?_
      exact hK109 _ h
    · replace h := ifn c3 h
      refine J_iload (pc := 43) dX0_load_43 2 rfl ?_
      refine J_bipush (v := (6 : Int32)) (pc := 45) dX0_load_45 (by decide) ?_
      refine J_icmp_ge (pc := 47) (tgt := 109) dX0_load_47 (by decide) (fun c4 => ?_) (fun c4 => ?_)
      · replace h := ifp c4 h
        refine J_sub [] rfl ?_
        exact hK109 _ h
      · replace h := ifn c4 h
        refine J_aload_n (pc := 50) dX0_load_50 rfl 0 rfl ?_
        refine J_get (c := 44) (ci := 0) (v := .ref 45) (pc := 51) rfl (by decide) rfl lay_X0 0 (by decide) w_161 rfl rfl dX0_load_51 ?_
        refine J_iload (pc := 54) dX0_load_54 2 rfl ?_
        refine J_aload_n (pc := 56) dX0_load_56 rfl 1 rfl ?_
        refine J_get (c := 1) (ci := 1) (v := .ref 4) (pc := 57) rfl (by decide) rfl lay_X1 2 (by decide) w_116 rfl rfl dX0_load_57 ?_
        refine J_iload (pc := 60) dX0_load_60 2 rfl ?_
        obtain ⟨v5, e6, hk7, h⟩ := ldi_e h
        refine J_iald (c := 4) (N := 6) (pc := 62) rfl (by decide) hk7 dX0_load_62 ?_
        refine J_topi e6 ?_
        obtain ⟨hk8, h⟩ := inb_e h
        refine J_iast (c := 45) (N := 6) (pc := 63) (fun _ => rfl) (by decide) hk8 dX0_load_63 ?_
        refine J_aload_n (pc := 64) dX0_load_64 rfl 0 rfl ?_
        refine J_dup (pc := 65) dX0_load_65 rfl ?_
        refine J_get (c := 44) (ci := 0) (v := .int (M.1 44 8)) (pc := 66) rfl (by decide) rfl lay_X0 8 (by decide) w_169 rfl rfl dX0_load_66 ?_
        refine J_aload_n (pc := 69) dX0_load_69 rfl 1 rfl ?_
        refine J_get (c := 1) (ci := 1) (v := .ref 3) (pc := 70) rfl (by decide) rfl lay_X1 1 (by decide) w_113 rfl rfl dX0_load_70 ?_
        refine J_iload (pc := 73) dX0_load_73 2 rfl ?_
        obtain ⟨v9, e10, hk11, h⟩ := ldi_e h
        refine J_iald (c := 3) (N := 6) (pc := 75) rfl (by decide) hk11 dX0_load_75 ?_
        refine J_topi e10 ?_
        refine J_iconst (v := (2 : Int32)) (pc := 76) dX0_load_76 (by decide) ?_
        refine J_iload (pc := 77) dX0_load_77 2 rfl ?_
        refine J_imul (pc := 79) dX0_load_79 ?_
        refine J_ishl (pc := 80) dX0_load_80 ?_
        refine J_iadd (pc := 81) dX0_load_81 ?_
        refine J_put (c := 44) (ci := 0) (M' := (upI (upI M 45 x4.toNatClampNeg v5) 44 8 ((M.1 44 8) + (v9 <<< (((2 : Int32) * x4) &&& 31))))) (pc := 82) rfl (by decide) rfl lay_X0 tyX0 tyX0_ok nmX0 8 (by decide) w_169 rfl rfl rfl rfl (Nat.le_of_ble_eq_true rfl) rfl jc_ne_I dX0_load_82 ?_
        refine J_aload_n (pc := 85) dX0_load_85 rfl 0 rfl ?_
        refine J_aload_n (pc := 86) dX0_load_86 rfl 1 rfl ?_
        refine J_get (c := 1) (ci := 1) (v := .ref 2) (pc := 87) rfl (by decide) rfl lay_X1 0 (by decide) w_110 rfl rfl dX0_load_87 ?_
        refine J_iload (pc := 90) dX0_load_90 2 rfl ?_
        obtain ⟨v12, e13, hk14, h⟩ := ldi_e h
        refine J_iald (c := 2) (N := 6) (pc := 92) rfl (by decide) hk14 dX0_load_92 ?_
        refine J_topi e13 ?_
        refine J_aload_n (pc := 93) dX0_load_93 rfl 1 rfl ?_
        refine J_get (c := 1) (ci := 1) (v := .ref 4) (pc := 94) rfl (by decide) rfl lay_X1 2 (by decide) w_116 rfl rfl dX0_load_94 ?_
        refine J_iload (pc := 97) dX0_load_97 2 rfl ?_
        obtain ⟨v15, e16, hk17, h⟩ := ldi_e h
        refine J_iald (c := 4) (N := 6) (pc := 99) rfl (by decide) hk17 dX0_load_99 ?_
        refine J_topi e16 ?_
        obtain ⟨M18, hc19, h⟩ := obind_e h
        refine J_callV (g := mi_X0_addToTable) (ci := 0) (pc := 100) [.int v12, .int v15] [] mv_X0_addToTable w_410 (k_X0_addToTable v12 v15 _ hc19) rfl (by decide) rfl rfl rfl ⟨⟨Nat.le_of_ble_eq_true rfl, Nat.le_of_ble_eq_true rfl⟩, Nat.le_of_ble_eq_true rfl, Nat.le_of_ble_eq_true rfl⟩ (Nat.le_of_ble_eq_true rfl) dX0_load_100 (Jk_0 rfl rfl ?_)
        obtain ⟨v20, e21, h⟩ := bnd_e h
        refine J_iinc (v := v20) (pc := 103) dX0_load_103 2 rfl (by rw [e21]; rfl) (Nat.le_of_ble_eq_true rfl) [1, 2, 0] rfl ?_
        refine J_goto (pc := 106) (tgt := 34) dX0_load_106 (by decide) ?_
        exact ih _ _ h
set_option maxHeartbeats 4000000 in
set_option maxRecDepth 100000 in
theorem k_X0_load_1 {E : En} (a2 : Int32) (a3 : Int32) (M : Wd) {M' : Wd} (h : F_X0_load_1 a2 a3 M = some M') : Con E mi_X0_load [.ref 44, .ref 1, .int a2, .int a3] M (.inl none) M' := by
  unfold F_X0_load_1 at h
  refine Con.of (by decide) rfl (by decide) (fun κ => ?_)
  show J κ E mi_X0_load _ 0 0 [(0, .ref 44), (1, .ref 1), (2, .int a2), (3, .int a3)] M 0 []
  refine J_aload_n (pc := 0) dX0_load_0 rfl 0 rfl ?_
  refine J_iconst (v := (0 : Int32)) (pc := 1) dX0_load_1 (by decide) ?_
  refine J_iload_n (pc := 2) dX0_load_2 rfl 2 rfl ?_
  refine J_bipush (v := (6 : Int32)) (pc := 3) dX0_load_3 (by decide) ?_
  refine J_callS (g := mi_J9_min_7cf53) (pc := 5) [.int a2, .int (6 : Int32)] [.int (0 : Int32), .ref 44] ms_J9_min_7cf53 w_404 (k_J9_min_7cf53 a2 (6 : Int32) _) rfl rfl ⟨⟨Nat.le_of_ble_eq_true rfl, Nat.le_of_ble_eq_true rfl⟩, Nat.le_of_ble_eq_true rfl, Nat.le_of_ble_eq_true rfl⟩ (Nat.le_of_ble_eq_true rfl) dX0_load_5 (Jk_v rfl rfl fun hok1 => ?_)
  refine J_callS (g := mi_J9_max_7cf53) (pc := 8) [.int (0 : Int32), .int (F_J9_min_7cf53 a2 (6 : Int32))] [.ref 44] ms_J9_max_7cf53 w_407 (k_J9_max_7cf53 (0 : Int32) (F_J9_min_7cf53 a2 (6 : Int32)) _) rfl rfl ⟨⟨Nat.le_of_ble_eq_true rfl, Nat.le_of_ble_eq_true rfl⟩, Nat.le_of_ble_eq_true rfl, Nat.le_of_ble_eq_true rfl⟩ (Nat.le_of_ble_eq_true rfl) dX0_load_8 (Jk_v rfl rfl fun hok2 => ?_)
  refine J_put (c := 44) (ci := 0) (M' := (upI M 44 6 (F_J9_max_7cf53 (0 : Int32) (F_J9_min_7cf53 a2 (6 : Int32))))) (pc := 11) rfl (by decide) rfl lay_X0 tyX0 tyX0_ok nmX0 6 (by decide) w_167 rfl rfl rfl rfl (Nat.le_of_ble_eq_true rfl) rfl jc_ne_I dX0_load_11 ?_
  refine J_aload_n (pc := 14) dX0_load_14 rfl 0 rfl ?_
  refine J_iconst (v := (1 : Int32)) (pc := 15) dX0_load_15 (by decide) ?_
  refine J_put (c := 44) (ci := 0) (M' := (upI (upI M 44 6 (F_J9_max_7cf53 (0 : Int32) (F_J9_min_7cf53 a2 (6 : Int32)))) 44 7 (1 : Int32))) (pc := 16) rfl (by decide) rfl lay_X0 tyX0 tyX0_ok nmX0 7 (by decide) w_168 rfl rfl rfl rfl (Nat.le_of_ble_eq_true rfl) rfl jc_ne_I dX0_load_16 ?_
  refine J_aload_n (pc := 19) dX0_load_19 rfl 0 rfl ?_
  refine J_iconst (v := (0 : Int32)) (pc := 20) dX0_load_20 (by decide) ?_
  refine J_put (c := 44) (ci := 0) (M' := (upI (upI (upI M 44 6 (F_J9_max_7cf53 (0 : Int32) (F_J9_min_7cf53 a2 (6 : Int32)))) 44 7 (1 : Int32)) 44 8 (0 : Int32))) (pc := 21) rfl (by decide) rfl lay_X0 tyX0 tyX0_ok nmX0 8 (by decide) w_169 rfl rfl rfl rfl (Nat.le_of_ble_eq_true rfl) rfl jc_ne_I dX0_load_21 ?_
  refine J_aload_n (pc := 24) dX0_load_24 rfl 0 rfl ?_
  refine J_get (c := 44) (ci := 0) (v := .ref 46) (pc := 25) rfl (by decide) rfl lay_X0 1 (by decide) w_162 rfl rfl dX0_load_25 ?_
  refine J_iconst (v := (0 : Int32)) (pc := 28) dX0_load_28 (by decide) ?_
  refine J_iload_n (pc := 29) dX0_load_29 rfl 3 rfl ?_
  refine J_iast (c := 46) (N := 4096) (pc := 30) (fun _ => rfl) (by decide) (vpc rfl) dX0_load_30 ?_
  refine J_M (upI (upI (upI (upI M 44 6 (F_J9_max_7cf53 (0 : Int32) (F_J9_min_7cf53 a2 (6 : Int32)))) 44 7 (1 : Int32)) 44 8 (0 : Int32)) 46 0 a3) rfl ?_
  refine J_iconst (v := (0 : Int32)) (pc := 31) dX0_load_31 (by decide) ?_
  refine J_istore (pc := 32) dX0_load_32 (Nat.le_of_ble_eq_true rfl) [1, 2, 3, 4, 0] rfl ?_
  refine J_sub [0, 1, 4] rfl ?_
  refine kL_X0_load_1_L34 _ (fun M22 h => ?_) fuelN _ _ h
  cases h
  exact J_return dX0_load_109 rfl rfl rfl rfl rfl
set_option maxHeartbeats 4000000 in
set_option maxRecDepth 100000 in
theorem k_X0_exists {E : En} (a1 : Int32) (M : Wd) {r : Int32} (h : F_X0_exists a1 M = some r) : Con E mi_X0_exists [.ref 44, .int a1] M (.inl (some (.int r))) M := by
  unfold F_X0_exists at h
  refine Con.of (by decide) rfl (by decide) (fun κ => ?_)
  show J κ E mi_X0_exists _ 0 0 [(0, .ref 44), (1, .int a1)] M 0 []
  refine J_iload_n (pc := 0) dX0_exists_0 rfl 1 rfl ?_
  refine J_if_lt (pc := 1) (tgt := 26) dX0_exists_1 (by decide) (fun c1 => ?_) (fun c1 => ?_)
  · replace h := ifp c1 h
    refine J_iconst (v := (0 : Int32)) (pc := 26) dX0_exists_26 (by decide) ?_
    cases h
    exact J_zreturn dX0_exists_27 rfl (Or.inl rfl) rfl rfl rfl rfl
  · replace h := ifn c1 h
    refine J_iload_n (pc := 4) dX0_exists_4 rfl 1 rfl ?_
    refine J_aload_n (pc := 5) dX0_exists_5 rfl 0 rfl ?_
    refine J_get (c := 44) (ci := 0) (v := .int (M.1 44 7)) (pc := 6) rfl (by decide) rfl lay_X0 7 (by decide) w_168 rfl rfl dX0_exists_6 ?_
    refine J_icmp_ge (pc := 9) (tgt := 26) dX0_exists_9 (by decide) (fun c2 => ?_) (fun c2 => ?_)
    · replace h := ifp c2 h
      refine J_iconst (v := (0 : Int32)) (pc := 26) dX0_exists_26 (by decide) ?_
      cases h
      exact J_zreturn dX0_exists_27 rfl (Or.inl rfl) rfl rfl rfl rfl
    · replace h := ifn c2 h
      refine J_aload_n (pc := 12) dX0_exists_12 rfl 0 rfl ?_
      refine J_get (c := 44) (ci := 0) (v := .ref 46) (pc := 13) rfl (by decide) rfl lay_X0 1 (by decide) w_162 rfl rfl dX0_exists_13 ?_
      refine J_iload_n (pc := 16) dX0_exists_16 rfl 1 rfl ?_
      obtain ⟨v3, e4, hk5, h⟩ := ldi_e h
      refine J_iald (c := 46) (N := 4096) (pc := 17) rfl (by decide) hk5 dX0_exists_17 ?_
      refine J_topi e4 ?_
      refine J_iconst (v := (-1 : Int32)) (pc := 18) dX0_exists_18 (by decide) ?_
      refine J_icmp_eq (pc := 19) (tgt := 26) dX0_exists_19 (by decide) (fun c6 => ?_) (fun c6 => ?_)
      · replace h := ifp c6 h
        refine J_iconst (v := (0 : Int32)) (pc := 26) dX0_exists_26 (by decide) ?_
        cases h
        exact J_zreturn dX0_exists_27 rfl (Or.inl rfl) rfl rfl rfl rfl
      · replace h := ifn c6 h
        refine J_iconst (v := (1 : Int32)) (pc := 22) dX0_exists_22 (by decide) ?_
        refine J_goto (pc := 23) (tgt := 27) dX0_exists_23 (by decide) ?_
        cases h
        exact J_zreturn dX0_exists_27 rfl (Or.inr rfl) rfl rfl rfl rfl
set_option maxHeartbeats 4000000 in
set_option maxRecDepth 100000 in
theorem k_X0_isOutIn {E : En} (a1 : Int32) (M : Wd) : Con E mi_X0_isOutIn [.ref 44, .int a1] M (.inl (some (.int (F_X0_isOutIn a1 M)))) M := by
  obtain ⟨r, h⟩ : ∃ r, F_X0_isOutIn a1 M = r := ⟨_, rfl⟩
  rw [h]
  unfold F_X0_isOutIn at h
  refine Con.of (by decide) rfl (by decide) (fun κ => ?_)
  show J κ E mi_X0_isOutIn _ 0 0 [(0, .ref 44), (1, .int a1)] M 0 []
  refine J_aload_n (pc := 0) dX0_isOutIn_0 rfl 0 rfl ?_
  refine J_get (c := 44) (ci := 0) (v := .int (M.1 44 6)) (pc := 1) rfl (by decide) rfl lay_X0 6 (by decide) w_167 rfl rfl dX0_isOutIn_1 ?_
  refine J_if_le (pc := 4) (tgt := 25) dX0_isOutIn_4 (by decide) (fun c1 => ?_) (fun c1 => ?_)
  · replace h := ifp c1 h
    refine J_iconst (v := (0 : Int32)) (pc := 25) dX0_isOutIn_25 (by decide) ?_
    subst h
    exact J_zreturn dX0_isOutIn_26 rfl (Or.inl rfl) rfl rfl rfl rfl
  · replace h := ifn c1 h
    refine J_iload_n (pc := 7) dX0_isOutIn_7 rfl 1 rfl ?_
    refine J_iconst (v := (4 : Int32)) (pc := 8) dX0_isOutIn_8 (by decide) ?_
    refine J_irem (pc := 9) dX0_isOutIn_9 (by decide) ?_
    refine J_aload_n (pc := 10) dX0_isOutIn_10 rfl 0 rfl ?_
    refine J_get (c := 44) (ci := 0) (v := .ref 45) (pc := 11) rfl (by decide) rfl lay_X0 0 (by decide) w_161 rfl rfl dX0_isOutIn_11 ?_
    refine J_iconst (v := (0 : Int32)) (pc := 14) dX0_isOutIn_14 (by decide) ?_
    refine J_iald (c := 45) (N := 6) (pc := 15) rfl (by decide) (vpc rfl) dX0_isOutIn_15 ?_
    refine J_topi (y := (M.1 45 0)) rfl ?_
    refine J_iadd (pc := 16) dX0_isOutIn_16 ?_
    refine J_iconst (v := (5 : Int32)) (pc := 17) dX0_isOutIn_17 (by decide) ?_
    refine J_icmp_ne (pc := 18) (tgt := 25) dX0_isOutIn_18 (by decide) (fun c2 => ?_) (fun c2 => ?_)
    · replace h := ifn c2 h
      refine J_iconst (v := (0 : Int32)) (pc := 25) dX0_isOutIn_25 (by decide) ?_
      subst h
      exact J_zreturn dX0_isOutIn_26 rfl (Or.inl rfl) rfl rfl rfl rfl
    · replace h := ifp c2 h
      refine J_iconst (v := (1 : Int32)) (pc := 21) dX0_isOutIn_21 (by decide) ?_
      refine J_goto (pc := 22) (tgt := 26) dX0_isOutIn_22 (by decide) ?_
      subst h
      exact J_zreturn dX0_isOutIn_26 rfl (Or.inr rfl) rfl rfl rfl rfl
set_option maxHeartbeats 4000000 in
set_option maxRecDepth 100000 in
theorem kL_X0_allArrangements_L4 {κ : Kx} {E : En} {Q : State → Prop} {k n : Nat} {ρ : Type} {r : ρ} (M : Wd) (K29 : Int32 → Option ρ) (hK29 : ∀ (x1 : Int32), K29 x1 = some r → J κ E mi_X0_allArrangements Q k n [(1, .int x1)] M 29 []) : ∀ (m : Nat) (x1 : Int32) (x2 : Int32), F_X0_allArrangements_L4 M K29 m x1 x2 = some r → J κ E mi_X0_allArrangements Q k n [(0, .ref 44), (1, .int x1), (2, .int x2)] M 4 [] := by
  intro m
  induction m with
  | zero => intro x1 x2 h; exact (nomatch (show (none : Option ρ) = some r from h))
  | succ m ih =>
    intro x1 x2 h
    unfold F_X0_allArrangements_L4 at h
    refine J_iload_n (pc := 4) dX0_allArrangements_4 rfl 2 rfl ?_
    refine J_aload_n (pc := 5) dX0_allArrangements_5 rfl 0 rfl ?_
    refine J_get (c := 44) (ci := 0) (v := .int (M.1 44 7)) (pc := 6) rfl (by decide) rfl lay_X0 7 (by decide) w_168 rfl rfl dX0_allArrangements_6 ?_
    refine J_icmp_ge (pc := 9) (tgt := 29) dX0_allArrangements_9 (by decide) (fun c1 => ?_) (fun c1 => ?_)
    · replace h := ifp c1 h
      refine J_sub [1] rfl ?_
      exact hK29 _ h
    · replace h := ifn c1 h
      refine J_aload_n (pc := 12) dX0_allArrangements_12 rfl 0 rfl ?_
      refine J_iload_n (pc := 13) dX0_allArrangements_13 rfl 2 rfl ?_
      obtain ⟨v2, hc3, h⟩ := obind_e h
      refine J_callV (g := mi_X0_exists) (ci := 0) (pc := 14) [.int x2] [] mv_X0_exists w_442 (k_X0_exists x2 _ hc3) rfl (by decide) rfl rfl rfl ⟨⟨Nat.le_of_ble_eq_true rfl, Nat.le_of_ble_eq_true rfl⟩, Nat.le_of_ble_eq_true rfl, Nat.le_of_ble_eq_true rfl⟩ (Nat.le_of_ble_eq_true rfl) dX0_allArrangements_14 (Jk_v rfl rfl fun hok4 => ?_)
      obtain ⟨v5, e6, h⟩ := bnd_e h
      refine J_join [(0, .ref 44), (1, .int v5), (2, .int x2)] M 23 [] ?_ (fun hJ => ?_)
      · obtain ⟨v8, e9, h⟩ := bnd_e h
        refine J_iinc (v := v8) (pc := 23) dX0_allArrangements_23 2 rfl (by rw [e9]; rfl) (Nat.le_of_ble_eq_true rfl) [1, 2, 0] rfl ?_
        refine J_goto (pc := 26) (tgt := 4) dX0_allArrangements_26 (by decide) ?_
        exact ih _ _ h
      · refine J_if_eq (pc := 17) (tgt := 23) dX0_allArrangements_17 (by decide) (fun c7 => ?_) (fun c7 => ?_)
        · refine J_LS [(0, .ref 44), (1, .int v5), (2, .int x2)] [] (by rw [e6, if_pos c7]) rfl ?_
          exact hJ
        · refine J_iinc (v := (x1 + (1 : Int32))) (pc := 20) dX0_allArrangements_20 1 rfl rfl (Nat.le_of_ble_eq_true rfl) [1, 0, 2] rfl ?_
          refine J_LS [(0, .ref 44), (1, .int v5), (2, .int x2)] [] (by rw [e6, if_neg c7]) rfl ?_
          exact hJ
set_option maxHeartbeats 4000000 in
set_option maxRecDepth 100000 in
theorem k_X0_allArrangements {E : En} (M : Wd) {r : Int32} (h : F_X0_allArrangements M = some r) : Con E mi_X0_allArrangements [.ref 44] M (.inl (some (.int r))) M := by
  unfold F_X0_allArrangements at h
  refine Con.of (by decide) rfl (by decide) (fun κ => ?_)
  show J κ E mi_X0_allArrangements _ 0 0 [(0, .ref 44)] M 0 []
  refine J_iconst (v := (0 : Int32)) (pc := 0) dX0_allArrangements_0 (by decide) ?_
  refine J_istore_n (pc := 1) dX0_allArrangements_1 rfl (Nat.le_of_ble_eq_true rfl) [1, 0] rfl ?_
  refine J_iconst (v := (0 : Int32)) (pc := 2) dX0_allArrangements_2 (by decide) ?_
  refine J_istore_n (pc := 3) dX0_allArrangements_3 rfl (Nat.le_of_ble_eq_true rfl) [1, 2, 0] rfl ?_
  refine kL_X0_allArrangements_L4 _ _ (fun v10 h => ?_) fuelN _ _ h
  refine J_iload_n (pc := 29) dX0_allArrangements_29 rfl 0 rfl ?_
  cases h
  exact J_ireturn dX0_allArrangements_30 rfl rfl rfl rfl rfl
set_option maxHeartbeats 4000000 in
set_option maxRecDepth 100000 in
theorem k_X0_behindStep {E : En} (a1 : Int32) (a2 : Int32) (a3 : Int32) (M : Wd) {r : Int32} (h : F_X0_behindStep a1 a2 a3 M = some r) : Con E mi_X0_behindStep [.ref 44, .int a1, .int a2, .int a3] M (.inl (some (.int r))) M := by
  unfold F_X0_behindStep at h
  refine Con.of (by decide) rfl (by decide) (fun κ => ?_)
  show J κ E mi_X0_behindStep _ 0 0 [(0, .ref 44), (1, .int a1), (2, .int a2), (3, .int a3)] M 0 []
  refine J_iload_n (pc := 0) dX0_behindStep_0 rfl 1 rfl ?_
  refine J_iconst (v := (2 : Int32)) (pc := 1) dX0_behindStep_1 (by decide) ?_
  refine J_iload_n (pc := 2) dX0_behindStep_2 rfl 2 rfl ?_
  refine J_imul (pc := 3) dX0_behindStep_3 ?_
  refine J_ishr (pc := 4) dX0_behindStep_4 ?_
  refine J_iconst (v := (3 : Int32)) (pc := 5) dX0_behindStep_5 (by decide) ?_
  refine J_iand (pc := 6) dX0_behindStep_6 ?_
  refine J_iload_n (pc := 7) dX0_behindStep_7 rfl 3 rfl ?_
  refine J_iadd (pc := 8) dX0_behindStep_8 ?_
  obtain ⟨v1, e2, h⟩ := bnd_e h
  refine J_topi e2 ?_
  refine J_istore (pc := 9) dX0_behindStep_9 (Nat.le_of_ble_eq_true rfl) [1, 2, 3, 4, 0] rfl ?_
  refine J_iload_n (pc := 11) dX0_behindStep_11 rfl 1 rfl ?_
  refine J_iload_n (pc := 12) dX0_behindStep_12 rfl 3 rfl ?_
  refine J_iconst (v := (1 : Int32)) (pc := 13) dX0_behindStep_13 (by decide) ?_
  refine J_iconst (v := (2 : Int32)) (pc := 14) dX0_behindStep_14 (by decide) ?_
  refine J_iload_n (pc := 15) dX0_behindStep_15 rfl 2 rfl ?_
  refine J_imul (pc := 16) dX0_behindStep_16 ?_
  refine J_ishl (pc := 17) dX0_behindStep_17 ?_
  refine J_imul (pc := 18) dX0_behindStep_18 ?_
  refine J_iadd (pc := 19) dX0_behindStep_19 ?_
  obtain ⟨v3, e4, h⟩ := bnd_e h
  refine J_topi e4 ?_
  refine J_istore (pc := 20) dX0_behindStep_20 (Nat.le_of_ble_eq_true rfl) [1, 2, 3, 4, 5, 0] rfl ?_
  refine J_iload (pc := 22) dX0_behindStep_22 4 rfl ?_
  refine J_if_lt (pc := 24) (tgt := 47) dX0_behindStep_24 (by decide) (fun c5 => ?_) (fun c5 => ?_)
  · replace h := ifp c5 h
    refine J_iconst (v := (-1 : Int32)) (pc := 47) dX0_behindStep_47 (by decide) ?_
    cases h
    exact J_ireturn dX0_behindStep_48 rfl rfl rfl rfl rfl
  · replace h := ifn c5 h
    refine J_iload (pc := 27) dX0_behindStep_27 4 rfl ?_
    refine J_iconst (v := (4 : Int32)) (pc := 29) dX0_behindStep_29 (by decide) ?_
    refine J_icmp_ge (pc := 30) (tgt := 47) dX0_behindStep_30 (by decide) (fun c6 => ?_) (fun c6 => ?_)
    · replace h := ifp c6 h
      refine J_iconst (v := (-1 : Int32)) (pc := 47) dX0_behindStep_47 (by decide) ?_
      cases h
      exact J_ireturn dX0_behindStep_48 rfl rfl rfl rfl rfl
    · replace h := ifn c6 h
      refine J_iload (pc := 33) dX0_behindStep_33 5 rfl ?_
      refine J_if_lt (pc := 35) (tgt := 47) dX0_behindStep_35 (by decide) (fun c7 => ?_) (fun c7 => ?_)
      · replace h := ifp c7 h
        refine J_iconst (v := (-1 : Int32)) (pc := 47) dX0_behindStep_47 (by decide) ?_
        cases h
        exact J_ireturn dX0_behindStep_48 rfl rfl rfl rfl rfl
      · replace h := ifn c7 h
        refine J_iload (pc := 38) dX0_behindStep_38 5 rfl ?_
        refine J_aload_n (pc := 40) dX0_behindStep_40 rfl 0 rfl ?_
        refine J_get (c := 44) (ci := 0) (v := .int (M.1 44 7)) (pc := 41) rfl (by decide) rfl lay_X0 7 (by decide) w_168 rfl rfl dX0_behindStep_41 ?_
        refine J_icmp_lt (pc := 44) (tgt := 49) dX0_behindStep_44 (by decide) (fun c8 => ?_) (fun c8 => ?_)
        · replace h := ifp c8 h
          refine J_aload_n (pc := 49) dX0_behindStep_49 rfl 0 rfl ?_
          refine J_get (c := 44) (ci := 0) (v := .ref 46) (pc := 50) rfl (by decide) rfl lay_X0 1 (by decide) w_162 rfl rfl dX0_behindStep_50 ?_
          refine J_iload (pc := 53) dX0_behindStep_53 5 rfl ?_
          obtain ⟨v9, e10, hk11, h⟩ := ldi_e h
          refine J_iald (c := 46) (N := 4096) (pc := 55) rfl (by decide) hk11 dX0_behindStep_55 ?_
          refine J_topi e10 ?_
          refine J_iconst (v := (-1 : Int32)) (pc := 56) dX0_behindStep_56 (by decide) ?_
          refine J_icmp_ne (pc := 57) (tgt := 64) dX0_behindStep_57 (by decide) (fun c12 => ?_) (fun c12 => ?_)
          · replace h := ifn c12 h
            refine J_iload (pc := 64) dX0_behindStep_64 5 rfl ?_
            cases h
            exact J_ireturn dX0_behindStep_66 rfl rfl rfl rfl rfl
          · replace h := ifp c12 h
            refine J_iconst (v := (-1 : Int32)) (pc := 60) dX0_behindStep_60 (by decide) ?_
            refine J_goto (pc := 61) (tgt := 66) dX0_behindStep_61 (by decide) ?_
            cases h
            exact J_ireturn dX0_behindStep_66 rfl rfl rfl rfl rfl
        · replace h := ifn c8 h
          refine J_iconst (v := (-1 : Int32)) (pc := 47) dX0_behindStep_47 (by decide) ?_
          cases h
          exact J_ireturn dX0_behindStep_48 rfl rfl rfl rfl rfl
set_option maxHeartbeats 4000000 in
set_option maxRecDepth 100000 in
theorem k_J9_abs_0f7a4 {E : En} (a0 : Int32) (M : Wd) : Con E mi_J9_abs_0f7a4 [.int a0] M (.inl (some (.int (F_J9_abs_0f7a4 a0)))) M := by
  obtain ⟨r, h⟩ : ∃ r, F_J9_abs_0f7a4 a0 = r := ⟨_, rfl⟩
  rw [h]
  unfold F_J9_abs_0f7a4 at h
  refine Con.of (by decide) rfl (by decide) (fun κ => ?_)
  show J κ E mi_J9_abs_0f7a4 _ 0 0 [(0, .int a0)] M 0 []
  refine J_iload_n (pc := 0) dJ9_abs_0f7a4_0 rfl 0 rfl ?_
  refine J_if_ge (pc := 1) (tgt := 9) dJ9_abs_0f7a4_1 (by decide) (fun c1 => ?_) (fun c1 => ?_)
  · replace h := ifp c1 h
    refine J_iload_n (pc := 9) dJ9_abs_0f7a4_9 rfl 0 rfl ?_
    subst h
    exact J_ireturn dJ9_abs_0f7a4_10 rfl rfl rfl rfl rfl
  · replace h := ifn c1 h
    refine J_iload_n (pc := 4) dJ9_abs_0f7a4_4 rfl 0 rfl ?_
    refine J_ineg (pc := 5) dJ9_abs_0f7a4_5 ?_
    refine J_goto (pc := 6) (tgt := 10) dJ9_abs_0f7a4_6 (by decide) ?_
    subst h
    exact J_ireturn dJ9_abs_0f7a4_10 rfl rfl rfl rfl rfl
set_option maxHeartbeats 4000000 in
set_option maxRecDepth 100000 in
theorem kL_X0_behindSlide_L20 {κ : Kx} {E : En} {Q : State → Prop} {k n : Nat} {ρ : Type} {r : ρ} (a2 : Int32) (a4 : Int32) (M : Wd) (K48 : Int32 → Option ρ) (hK48 : ∀ (x5 : Int32), K48 x5 = some r → J κ E mi_X0_behindSlide Q k n [(5, .int x5)] M 48 []) : ∀ (m : Nat) (x5 : Int32) (x6 : Int32), F_X0_behindSlide_L20 a2 a4 M K48 m x5 x6 = some r → J κ E mi_X0_behindSlide Q k n [(0, .ref 44), (2, .int a2), (4, .int a4), (5, .int x5), (6, .int x6)] M 20 [] := by
  intro m
  induction m with
  | zero => intro x5 x6 h; exact (nomatch (show (none : Option ρ) = some r from h))
  | succ m ih =>
    intro x5 x6 h
    unfold F_X0_behindSlide_L20 at h
    refine J_iload (pc := 20) dX0_behindSlide_20 4 rfl ?_
    refine J_if_le (pc := 22) (tgt := 48) dX0_behindSlide_22 (by decide) (fun c7 => ?_) (fun c7 => ?_)
    · replace h := ifp c7 h
      refine J_sub [3] rfl ?_
      exact hK48 _ h
    · replace h := ifn c7 h
      refine J_iload (pc := 25) dX0_behindSlide_25 3 rfl ?_
      refine J_iconst (v := (-1 : Int32)) (pc := 27) dX0_behindSlide_27 (by decide) ?_
      refine J_icmp_eq (pc := 28) (tgt := 48) dX0_behindSlide_28 (by decide) (fun c8 => ?_) (fun c8 => ?_)
      · replace h := ifp c8 h
        refine J_sub [3] rfl ?_
        exact hK48 _ h
      · replace h := ifn c8 h
        refine J_aload_n (pc := 31) dX0_behindSlide_31 rfl 0 rfl ?_
        refine J_iload (pc := 32) dX0_behindSlide_32 3 rfl ?_
        refine J_iload_n (pc := 34) dX0_behindSlide_34 rfl 1 rfl ?_
        refine J_iload (pc := 35) dX0_behindSlide_35 2 rfl ?_
        obtain ⟨v9, hc10, h⟩ := obind_e h
        refine J_callV (g := mi_X0_behindStep) (ci := 0) (pc := 37) [.int x5, .int a2, .int a4] [] mv_X0_behindStep w_450 (k_X0_behindStep x5 a2 a4 _ hc10) rfl (by decide) rfl rfl rfl ⟨⟨Nat.le_of_ble_eq_true rfl, Nat.le_of_ble_eq_true rfl⟩, Nat.le_of_ble_eq_true rfl, Nat.le_of_ble_eq_true rfl⟩ (Nat.le_of_ble_eq_true rfl) dX0_behindSlide_37 (Jk_v rfl rfl fun hok11 => ?_)
        refine J_istore (pc := 40) dX0_behindSlide_40 (Nat.le_of_ble_eq_true rfl) [1, 2, 3, 0, 4] rfl ?_
        obtain ⟨v12, e13, h⟩ := bnd_e h
        refine J_iinc (v := v12) (pc := 42) dX0_behindSlide_42 4 rfl (by rw [e13]; rfl) (Nat.le_of_ble_eq_true rfl) [1, 2, 3, 4, 0] rfl ?_
        refine J_goto (pc := 45) (tgt := 20) dX0_behindSlide_45 (by decide) ?_
        exact ih _ _ h
set_option maxHeartbeats 4000000 in
set_option maxRecDepth 100000 in
theorem k_X0_behindSlide {E : En} (a1 : Int32) (a2 : Int32) (a3 : Int32) (M : Wd) {r : Int32} (h : F_X0_behindSlide a1 a2 a3 M = some r) : Con E mi_X0_behindSlide [.ref 44, .int a1, .int a2, .int a3] M (.inl (some (.int r))) M := by
  unfold F_X0_behindSlide at h
  refine Con.of (by decide) rfl (by decide) (fun κ => ?_)
  show J κ E mi_X0_behindSlide _ 0 0 [(0, .ref 44), (1, .int a1), (2, .int a2), (3, .int a3)] M 0 []
  refine J_iload_n (pc := 0) dX0_behindSlide_0 rfl 3 rfl ?_
  obtain ⟨v1, e2, h⟩ := bnd_e h
  refine J_join [(0, .ref 44), (1, .int a1), (2, .int a2), (3, .int a3)] M 9 [.int v1] ?_ (fun hJ => ?_)
  · refine J_istore (pc := 9) dX0_behindSlide_9 (Nat.le_of_ble_eq_true rfl) [1, 2, 3, 4, 0] rfl ?_
    refine J_iload_n (pc := 11) dX0_behindSlide_11 rfl 1 rfl ?_
    refine J_istore (pc := 12) dX0_behindSlide_12 (Nat.le_of_ble_eq_true rfl) [1, 2, 3, 4, 5, 0] rfl ?_
    refine J_iload_n (pc := 14) dX0_behindSlide_14 rfl 3 rfl ?_
    refine J_callS (g := mi_J9_abs_0f7a4) (pc := 15) [.int a3] [] ms_J9_abs_0f7a4 w_818 (k_J9_abs_0f7a4 a3 _) rfl rfl ⟨⟨Nat.le_of_ble_eq_true rfl, Nat.le_of_ble_eq_true rfl⟩, Nat.le_of_ble_eq_true rfl, Nat.le_of_ble_eq_true rfl⟩ (Nat.le_of_ble_eq_true rfl) dX0_behindSlide_15 (Jk_v rfl rfl fun hok4 => ?_)
    obtain ⟨v5, e6, h⟩ := bnd_e h
    refine J_topi e6 ?_
    refine J_istore (pc := 18) dX0_behindSlide_18 (Nat.le_of_ble_eq_true rfl) [1, 2, 3, 4, 5, 6, 0] rfl ?_
    refine J_sub [0, 2, 4, 5, 6] rfl ?_
    refine kL_X0_behindSlide_L20 _ _ _ _ (fun v14 h => ?_) fuelN _ _ h
    refine J_iload (pc := 48) dX0_behindSlide_48 0 rfl ?_
    cases h
    exact J_ireturn dX0_behindSlide_50 rfl rfl rfl rfl rfl
  · refine J_if_le (pc := 1) (tgt := 8) dX0_behindSlide_1 (by decide) (fun c3 => ?_) (fun c3 => ?_)
    · refine J_iconst (v := (-1 : Int32)) (pc := 8) dX0_behindSlide_8 (by decide) ?_
      refine J_topi (by rw [e2, if_pos c3]) ?_
      exact hJ
    · refine J_iconst (v := (1 : Int32)) (pc := 4) dX0_behindSlide_4 (by decide) ?_
      refine J_goto (pc := 5) (tgt := 9) dX0_behindSlide_5 (by decide) ?_
      refine J_topi (by rw [e2, if_neg c3]) ?_
      exact hJ
set_option maxHeartbeats 4000000 in
set_option maxRecDepth 100000 in
theorem k_X0_costOf {E : En} (a1 : Int32) (M : Wd) {r : Int32} (h : F_X0_costOf a1 M = some r) : Con E mi_X0_costOf [.ref 44, .int a1] M (.inl (some (.int r))) M := by
  unfold F_X0_costOf at h
  refine Con.of (by decide) rfl (by decide) (fun κ => ?_)
  show J κ E mi_X0_costOf _ 0 0 [(0, .ref 44), (1, .int a1)] M 0 []
  refine J_aload_n (pc := 0) dX0_costOf_0 rfl 0 rfl ?_
  refine J_iload_n (pc := 1) dX0_costOf_1 rfl 1 rfl ?_
  obtain ⟨v1, hc2, h⟩ := obind_e h
  refine J_callV (g := mi_X0_exists) (ci := 0) (pc := 2) [.int a1] [] mv_X0_exists w_442 (k_X0_exists a1 _ hc2) rfl (by decide) rfl rfl rfl ⟨⟨Nat.le_of_ble_eq_true rfl, Nat.le_of_ble_eq_true rfl⟩, Nat.le_of_ble_eq_true rfl, Nat.le_of_ble_eq_true rfl⟩ (Nat.le_of_ble_eq_true rfl) dX0_costOf_2 (Jk_v rfl rfl fun hok3 => ?_)
  refine J_if_eq (pc := 5) (tgt := 17) dX0_costOf_5 (by decide) (fun c4 => ?_) (fun c4 => ?_)
  · replace h := ifp c4 h
    refine J_iconst (v := (-1 : Int32)) (pc := 17) dX0_costOf_17 (by decide) ?_
    cases h
    exact J_ireturn dX0_costOf_18 rfl rfl rfl rfl rfl
  · replace h := ifn c4 h
    refine J_aload_n (pc := 8) dX0_costOf_8 rfl 0 rfl ?_
    refine J_get (c := 44) (ci := 0) (v := .ref 47) (pc := 9) rfl (by decide) rfl lay_X0 2 (by decide) w_163 rfl rfl dX0_costOf_9 ?_
    refine J_iload_n (pc := 12) dX0_costOf_12 rfl 1 rfl ?_
    obtain ⟨v5, e6, hk7, h⟩ := ldi_e h
    refine J_iald (c := 47) (N := 4096) (pc := 13) rfl (by decide) hk7 dX0_costOf_13 ?_
    refine J_topi e6 ?_
    refine J_goto (pc := 14) (tgt := 18) dX0_costOf_14 (by decide) ?_
    cases h
    exact J_ireturn dX0_costOf_18 rfl rfl rfl rfl rfl
set_option maxHeartbeats 4000000 in
set_option maxRecDepth 100000 in
theorem kL_X0_forget_L2 {κ : Kx} {E : En} {Q : State → Prop} {k n : Nat} {ρ : Type} {r : ρ} (K30 : Wd → Option ρ) (hK30 : ∀ (M : Wd), K30 M = some r → J κ E mi_X0_forget Q k n [(0, .ref 44)] M 30 []) : ∀ (m : Nat) (x1 : Int32) (M : Wd), F_X0_forget_L2 K30 m x1 M = some r → J κ E mi_X0_forget Q k n [(0, .ref 44), (1, .int x1)] M 2 [] := by
  intro m
  induction m with
  | zero => intro x1 M h; exact (nomatch (show (none : Option ρ) = some r from h))
  | succ m ih =>
    intro x1 M h
    unfold F_X0_forget_L2 at h
    refine J_iload_n (pc := 2) dX0_forget_2 rfl 1 rfl ?_
    refine J_aload_n (pc := 3) dX0_forget_3 rfl 0 rfl ?_
    refine J_get (c := 44) (ci := 0) (v := .int (M.1 44 7)) (pc := 4) rfl (by decide) rfl lay_X0 7 (by decide) w_168 rfl rfl dX0_forget_4 ?_
    refine J_icmp_ge (pc := 7) (tgt := 30) dX0_forget_7 (by decide) (fun c1 => ?_) (fun c1 => ?_)
    · replace h := ifp c1 h
      refine J_sub [0] rfl ?_
      exact hK30 _ h
    · replace h := ifn c1 h
      refine J_iload_n (pc := 10) dX0_forget_10 rfl 1 rfl ?_
      refine J_sipush (v := (4096 : Int32)) (pc := 11) dX0_forget_11 (by decide) ?_
      refine J_icmp_ge (pc := 14) (tgt := 30) dX0_forget_14 (by decide) (fun c2 => ?_) (fun c2 => ?_)
      · replace h := ifp c2 h
        refine J_sub [0] rfl ?_
        exact hK30 _ h
      · replace h := ifn c2 h
        refine J_aload_n (pc := 17) dX0_forget_17 rfl 0 rfl ?_
        refine J_get (c := 44) (ci := 0) (v := .ref 47) (pc := 18) rfl (by decide) rfl lay_X0 2 (by decide) w_163 rfl rfl dX0_forget_18 ?_
        refine J_iload_n (pc := 21) dX0_forget_21 rfl 1 rfl ?_
        refine J_iconst (v := (-1 : Int32)) (pc := 22) dX0_forget_22 (by decide) ?_
        obtain ⟨hk3, h⟩ := inb_e h
        refine J_iast (c := 47) (N := 4096) (pc := 23) (fun _ => rfl) (by decide) hk3 dX0_forget_23 ?_
        obtain ⟨v4, e5, h⟩ := bnd_e h
        refine J_iinc (v := v4) (pc := 24) dX0_forget_24 1 rfl (by rw [e5]; rfl) (Nat.le_of_ble_eq_true rfl) [1, 0] rfl ?_
        refine J_goto (pc := 27) (tgt := 2) dX0_forget_27 (by decide) ?_
        exact ih _ _ h
set_option maxHeartbeats 4000000 in
set_option maxRecDepth 100000 in
theorem k_X0_forget {E : En} (M : Wd) {M' : Wd} (h : F_X0_forget M = some M') : Con E mi_X0_forget [.ref 44] M (.inl none) M' := by
  unfold F_X0_forget at h
  refine Con.of (by decide) rfl (by decide) (fun κ => ?_)
  show J κ E mi_X0_forget _ 0 0 [(0, .ref 44)] M 0 []
  refine J_iconst (v := (0 : Int32)) (pc := 0) dX0_forget_0 (by decide) ?_
  refine J_istore_n (pc := 1) dX0_forget_1 rfl (Nat.le_of_ble_eq_true rfl) [1, 0] rfl ?_
  refine kL_X0_forget_L2 _ (fun M6 h => ?_) fuelN _ _ h
  refine J_aload_n (pc := 30) dX0_forget_30 rfl 0 rfl ?_
  refine J_iconst (v := (0 : Int32)) (pc := 31) dX0_forget_31 (by decide) ?_
  refine J_put (c := 44) (ci := 0) (M' := (upI M6 44 9 (0 : Int32))) (pc := 32) rfl (by decide) rfl lay_X0 tyX0 tyX0_ok nmX0 9 (by decide) w_171 rfl rfl rfl rfl (Nat.le_of_ble_eq_true rfl) rfl jc_ne_I dX0_forget_32 ?_
  cases h
  exact J_return dX0_forget_35 rfl rfl rfl rfl rfl
set_option maxHeartbeats 4000000 in
set_option maxRecDepth 100000 in
theorem k_X0_find {E : En} (a1 : Int32) (a2 : Int32) (M : Wd) {M' : Wd} (h : F_X0_find a1 a2 M = some M') : Con E mi_X0_find [.ref 44, .int a1, .int a2] M (.inl none) M' := by
  unfold F_X0_find at h
  refine Con.of (by decide) rfl (by decide) (fun κ => ?_)
  show J κ E mi_X0_find _ 0 0 [(0, .ref 44), (1, .int a1), (2, .int a2)] M 0 []
  refine J_iload_n (pc := 0) dX0_find_0 rfl 1 rfl ?_
  refine J_if_lt (pc := 1) (tgt := 22) dX0_find_1 (by decide) (fun c1 => ?_) (fun c1 => ?_)
  · replace h := ifp c1 h
    cases h
    exact J_return dX0_find_22 rfl rfl rfl rfl rfl
  · replace h := ifn c1 h
    refine J_iload_n (pc := 4) dX0_find_4 rfl 1 rfl ?_
    refine J_aload_n (pc := 5) dX0_find_5 rfl 0 rfl ?_
    refine J_get (c := 44) (ci := 0) (v := .int (M.1 44 7)) (pc := 6) rfl (by decide) rfl lay_X0 7 (by decide) w_168 rfl rfl dX0_find_6 ?_
    refine J_icmp_ge (pc := 9) (tgt := 22) dX0_find_9 (by decide) (fun c2 => ?_) (fun c2 => ?_)
    · replace h := ifp c2 h
      cases h
      exact J_return dX0_find_22 rfl rfl rfl rfl rfl
    · replace h := ifn c2 h
      refine J_aload_n (pc := 12) dX0_find_12 rfl 0 rfl ?_
      refine J_get (c := 44) (ci := 0) (v := .ref 46) (pc := 13) rfl (by decide) rfl lay_X0 1 (by decide) w_162 rfl rfl dX0_find_13 ?_
      refine J_iload_n (pc := 16) dX0_find_16 rfl 1 rfl ?_
      obtain ⟨v3, e4, hk5, h⟩ := ldi_e h
      refine J_iald (c := 46) (N := 4096) (pc := 17) rfl (by decide) hk5 dX0_find_17 ?_
      refine J_topi e4 ?_
      refine J_iconst (v := (-1 : Int32)) (pc := 18) dX0_find_18 (by decide) ?_
      refine J_icmp_ne (pc := 19) (tgt := 23) dX0_find_19 (by decide) (fun c6 => ?_) (fun c6 => ?_)
      · replace h := ifn c6 h
        refine J_aload_n (pc := 23) dX0_find_23 rfl 0 rfl ?_
        refine J_get (c := 44) (ci := 0) (v := .ref 47) (pc := 24) rfl (by decide) rfl lay_X0 2 (by decide) w_163 rfl rfl dX0_find_24 ?_
        refine J_iload_n (pc := 27) dX0_find_27 rfl 1 rfl ?_
        obtain ⟨v7, e8, hk9, h⟩ := ldi_e h
        refine J_iald (c := 47) (N := 4096) (pc := 28) rfl (by decide) hk9 dX0_find_28 ?_
        refine J_topi e8 ?_
        refine J_iconst (v := (-1 : Int32)) (pc := 29) dX0_find_29 (by decide) ?_
        refine J_icmp_ne (pc := 30) (tgt := 77) dX0_find_30 (by decide) (fun c10 => ?_) (fun c10 => ?_)
        · replace h := ifn c10 h
          cases h
          exact J_return dX0_find_77 rfl rfl rfl rfl rfl
        · replace h := ifp c10 h
          refine J_aload_n (pc := 33) dX0_find_33 rfl 0 rfl ?_
          refine J_get (c := 44) (ci := 0) (v := .int (M.1 44 9)) (pc := 34) rfl (by decide) rfl lay_X0 9 (by decide) w_171 rfl rfl dX0_find_34 ?_
          refine J_if_lt (pc := 37) (tgt := 77) dX0_find_37 (by decide) (fun c11 => ?_) (fun c11 => ?_)
          · replace h := ifp c11 h
            cases h
            exact J_return dX0_find_77 rfl rfl rfl rfl rfl
          · replace h := ifn c11 h
            refine J_aload_n (pc := 40) dX0_find_40 rfl 0 rfl ?_
            refine J_get (c := 44) (ci := 0) (v := .int (M.1 44 9)) (pc := 41) rfl (by decide) rfl lay_X0 9 (by decide) w_171 rfl rfl dX0_find_41 ?_
            refine J_sipush (v := (4096 : Int32)) (pc := 44) dX0_find_44 (by decide) ?_
            refine J_icmp_ge (pc := 47) (tgt := 77) dX0_find_47 (by decide) (fun c12 => ?_) (fun c12 => ?_)
            · replace h := ifp c12 h
              cases h
              exact J_return dX0_find_77 rfl rfl rfl rfl rfl
            · replace h := ifn c12 h
              refine J_aload_n (pc := 50) dX0_find_50 rfl 0 rfl ?_
              refine J_get (c := 44) (ci := 0) (v := .ref 47) (pc := 51) rfl (by decide) rfl lay_X0 2 (by decide) w_163 rfl rfl dX0_find_51 ?_
              refine J_iload_n (pc := 54) dX0_find_54 rfl 1 rfl ?_
              refine J_iload_n (pc := 55) dX0_find_55 rfl 2 rfl ?_
              obtain ⟨hk13, h⟩ := inb_e h
              refine J_iast (c := 47) (N := 4096) (pc := 56) (fun _ => rfl) (by decide) hk13 dX0_find_56 ?_
              refine J_aload_n (pc := 57) dX0_find_57 rfl 0 rfl ?_
              refine J_get (c := 44) (ci := 0) (v := .ref 48) (pc := 58) rfl (by decide) rfl lay_X0 3 (by decide) w_164 rfl rfl dX0_find_58 ?_
              refine J_aload_n (pc := 61) dX0_find_61 rfl 0 rfl ?_
              refine J_get (c := 44) (ci := 0) (v := .int (M.1 44 9)) (pc := 62) rfl (by decide) rfl lay_X0 9 (by decide) w_171 rfl rfl dX0_find_62 ?_
              refine J_iload_n (pc := 65) dX0_find_65 rfl 1 rfl ?_
              obtain ⟨hk14, h⟩ := inb_e h
              refine J_iast (c := 48) (N := 4096) (pc := 66) (fun _ => rfl) (by decide) hk14 dX0_find_66 ?_
              refine J_aload_n (pc := 67) dX0_find_67 rfl 0 rfl ?_
              refine J_dup (pc := 68) dX0_find_68 rfl ?_
              refine J_get (c := 44) (ci := 0) (v := .int (M.1 44 9)) (pc := 69) rfl (by decide) rfl lay_X0 9 (by decide) w_171 rfl rfl dX0_find_69 ?_
              refine J_iconst (v := (1 : Int32)) (pc := 72) dX0_find_72 (by decide) ?_
              refine J_iadd (pc := 73) dX0_find_73 ?_
              refine J_put (c := 44) (ci := 0) (M' := (upI (upI (upI M 47 a1.toNatClampNeg a2) 48 (M.1 44 9).toNatClampNeg a1) 44 9 ((M.1 44 9) + (1 : Int32)))) (pc := 74) rfl (by decide) rfl lay_X0 tyX0 tyX0_ok nmX0 9 (by decide) w_171 rfl rfl rfl rfl (Nat.le_of_ble_eq_true rfl) rfl jc_ne_I dX0_find_74 ?_
              cases h
              exact J_return dX0_find_77 rfl rfl rfl rfl rfl
      · replace h := ifp c6 h
        cases h
        exact J_return dX0_find_22 rfl rfl rfl rfl rfl
set_option maxHeartbeats 4000000 in
set_option maxRecDepth 100000 in
theorem kL_X0_spreadAlong_L12 {κ : Kx} {E : En} {Q : State → Prop} {k n : Nat} {ρ : Type} {r : ρ} (a2 : Int32) (a3 : Int32) (a4 : Int32) (a5 : Int32) (K49 : Wd → Option ρ) (hK49 : ∀ (M : Wd), K49 M = some r → J κ E mi_X0_spreadAlong Q k n [] M 49 []) : ∀ (m : Nat) (x6 : Int32) (x7 : Int32) (M : Wd), F_X0_spreadAlong_L12 a2 a3 a4 a5 K49 m x6 x7 M = some r → J κ E mi_X0_spreadAlong Q k n [(0, .ref 44), (2, .int a2), (3, .int a3), (4, .int a4), (5, .int a5), (6, .int x6), (7, .int x7)] M 12 [] := by
  intro m
  induction m with
  | zero => intro x6 x7 M h; exact (nomatch (show (none : Option ρ) = some r from h))
  | succ m ih =>
    intro x6 x7 M h
    unfold F_X0_spreadAlong_L12 at h
    refine J_iload (pc := 12) dX0_spreadAlong_12 6 rfl ?_
    refine J_iload (pc := 14) dX0_spreadAlong_14 3 rfl ?_
    refine J_icmp_gt (pc := 16) (tgt := 49) dX0_spreadAlong_16 (by decide) (fun c4 => ?_) (fun c4 => ?_)
    · replace h := ifp c4 h
      refine J_sub [] rfl ?_
      exact hK49 _ h
    · replace h := ifn c4 h
      refine J_iload (pc := 19) dX0_spreadAlong_19 5 rfl ?_
      refine J_iconst (v := (-1 : Int32)) (pc := 21) dX0_spreadAlong_21 (by decide) ?_
      refine J_icmp_eq (pc := 22) (tgt := 49) dX0_spreadAlong_22 (by decide) (fun c5 => ?_) (fun c5 => ?_)
      · replace h := ifp c5 h
        refine J_sub [] rfl ?_
        exact hK49 _ h
      · replace h := ifn c5 h
        refine J_aload_n (pc := 25) dX0_spreadAlong_25 rfl 0 rfl ?_
        refine J_iload (pc := 26) dX0_spreadAlong_26 5 rfl ?_
        refine J_iload (pc := 28) dX0_spreadAlong_28 4 rfl ?_
        obtain ⟨M6, hc7, h⟩ := obind_e h
        refine J_callV (g := mi_X0_find) (ci := 0) (pc := 30) [.int x6, .int a5] [] mv_X0_find w_430 (k_X0_find x6 a5 _ hc7) rfl (by decide) rfl rfl rfl ⟨⟨Nat.le_of_ble_eq_true rfl, Nat.le_of_ble_eq_true rfl⟩, Nat.le_of_ble_eq_true rfl, Nat.le_of_ble_eq_true rfl⟩ (Nat.le_of_ble_eq_true rfl) dX0_spreadAlong_30 (Jk_0 rfl rfl ?_)
        refine J_aload_n (pc := 33) dX0_spreadAlong_33 rfl 0 rfl ?_
        refine J_iload (pc := 34) dX0_spreadAlong_34 5 rfl ?_
        refine J_iload_n (pc := 36) dX0_spreadAlong_36 rfl 1 rfl ?_
        refine J_iload_n (pc := 37) dX0_spreadAlong_37 rfl 2 rfl ?_
        obtain ⟨v8, hc9, h⟩ := obind_e h
        refine J_callV (g := mi_X0_behindStep) (ci := 0) (pc := 38) [.int x6, .int a2, .int a3] [] mv_X0_behindStep w_450 (k_X0_behindStep x6 a2 a3 _ hc9) rfl (by decide) rfl rfl rfl ⟨⟨Nat.le_of_ble_eq_true rfl, Nat.le_of_ble_eq_true rfl⟩, Nat.le_of_ble_eq_true rfl, Nat.le_of_ble_eq_true rfl⟩ (Nat.le_of_ble_eq_true rfl) dX0_spreadAlong_38 (Jk_v rfl rfl fun hok10 => ?_)
        refine J_istore (pc := 41) dX0_spreadAlong_41 (Nat.le_of_ble_eq_true rfl) [1, 2, 3, 4, 5, 0, 6] rfl ?_
        obtain ⟨v11, e12, h⟩ := bnd_e h
        refine J_iinc (v := v11) (pc := 43) dX0_spreadAlong_43 6 rfl (by rw [e12]; rfl) (Nat.le_of_ble_eq_true rfl) [1, 2, 3, 4, 5, 6, 0] rfl ?_
        refine J_goto (pc := 46) (tgt := 12) dX0_spreadAlong_46 (by decide) ?_
        exact ih _ _ _ h
set_option maxHeartbeats 4000000 in
set_option maxRecDepth 100000 in
theorem k_X0_spreadAlong {E : En} (a1 : Int32) (a2 : Int32) (a3 : Int32) (a4 : Int32) (a5 : Int32) (M : Wd) {M' : Wd} (h : F_X0_spreadAlong a1 a2 a3 a4 a5 M = some M') : Con E mi_X0_spreadAlong [.ref 44, .int a1, .int a2, .int a3, .int a4, .int a5] M (.inl none) M' := by
  unfold F_X0_spreadAlong at h
  refine Con.of (by decide) rfl (by decide) (fun κ => ?_)
  show J κ E mi_X0_spreadAlong _ 0 0 [(0, .ref 44), (1, .int a1), (2, .int a2), (3, .int a3), (4, .int a4), (5, .int a5)] M 0 []
  refine J_aload_n (pc := 0) dX0_spreadAlong_0 rfl 0 rfl ?_
  refine J_iload_n (pc := 1) dX0_spreadAlong_1 rfl 1 rfl ?_
  refine J_iload_n (pc := 2) dX0_spreadAlong_2 rfl 2 rfl ?_
  refine J_iload_n (pc := 3) dX0_spreadAlong_3 rfl 3 rfl ?_
  obtain ⟨v1, hc2, h⟩ := obind_e h
  refine J_callV (g := mi_X0_behindStep) (ci := 0) (pc := 4) [.int a1, .int a2, .int a3] [] mv_X0_behindStep w_450 (k_X0_behindStep a1 a2 a3 _ hc2) rfl (by decide) rfl rfl rfl ⟨⟨Nat.le_of_ble_eq_true rfl, Nat.le_of_ble_eq_true rfl⟩, Nat.le_of_ble_eq_true rfl, Nat.le_of_ble_eq_true rfl⟩ (Nat.le_of_ble_eq_true rfl) dX0_spreadAlong_4 (Jk_v rfl rfl fun hok3 => ?_)
  refine J_istore (pc := 7) dX0_spreadAlong_7 (Nat.le_of_ble_eq_true rfl) [1, 2, 3, 4, 5, 6, 0] rfl ?_
  refine J_iconst (v := (1 : Int32)) (pc := 9) dX0_spreadAlong_9 (by decide) ?_
  refine J_istore (pc := 10) dX0_spreadAlong_10 (Nat.le_of_ble_eq_true rfl) [1, 2, 3, 4, 5, 6, 7, 0] rfl ?_
  refine J_sub [0, 2, 3, 4, 5, 6, 7] rfl ?_
  refine kL_X0_spreadAlong_L12 _ _ _ _ _ (fun M13 h => ?_) fuelN _ _ _ h
  cases h
  exact J_return dX0_spreadAlong_49 rfl rfl rfl rfl rfl
set_option maxHeartbeats 4000000 in
set_option maxRecDepth 100000 in
theorem kL_X0_spread_L33 {κ : Kx} {E : En} {Q : State → Prop} {k n : Nat} {ρ : Type} {r : ρ} (a1 : Int32) (a2 : Int32) (a3 : Int32) (K78 : Wd → Option ρ) (hK78 : ∀ (M : Wd), K78 M = some r → J κ E mi_X0_spread Q k n [(0, .ref 44), (1, .int a1), (2, .int a2)] M 78 []) : ∀ (m : Nat) (x4 : Int32) (M : Wd), F_X0_spread_L33 a1 a2 a3 K78 m x4 M = some r → J κ E mi_X0_spread Q k n [(0, .ref 44), (1, .int a1), (2, .int a2), (3, .int a3), (4, .int x4)] M 33 [] := by
  intro m
  induction m with
  | zero => intro x4 M h; exact (nomatch (show (none : Option ρ) = some r from h))
  | succ m ih =>
    intro x4 M h
    unfold F_X0_spread_L33 at h
    refine J_iload (pc := 33) dX0_spread_33 4 rfl ?_
    refine J_aload_n (pc := 35) dX0_spread_35 rfl 0 rfl ?_
    refine J_get (c := 44) (ci := 0) (v := .int (M.1 44 6)) (pc := 36) rfl (by decide) rfl lay_X0 6 (by decide) w_167 rfl rfl dX0_spread_36 ?_
    refine J_icmp_ge (pc := 39) (tgt := 78) dX0_spread_39 (by decide) (fun c11 => ?_) (fun c11 => ?_)
    · replace h := ifp c11 h
      refine J_sub [0, 1, 2] rfl ?_
      exact hK78 _ h
    · replace h := ifn c11 h
      refine J_aload_n (pc := 42) dX0_spread_42 rfl 0 rfl ?_
      refine J_aload_n (pc := 43) dX0_spread_43 rfl 0 rfl ?_
      refine J_get (c := 44) (ci := 0) (v := .ref 48) (pc := 44) rfl (by decide) rfl lay_X0 3 (by decide) w_164 rfl rfl dX0_spread_44 ?_
      refine J_iload_n (pc := 47) dX0_spread_47 rfl 2 rfl ?_
      obtain ⟨v12, e13, hk14, h⟩ := ldi_e h
      refine J_iald (c := 48) (N := 4096) (pc := 48) rfl (by decide) hk14 dX0_spread_48 ?_
      refine J_topi e13 ?_
      refine J_iload (pc := 49) dX0_spread_49 4 rfl ?_
      refine J_iconst (v := (1 : Int32)) (pc := 51) dX0_spread_51 (by decide) ?_
      refine J_iload_n (pc := 52) dX0_spread_52 rfl 1 rfl ?_
      refine J_iload_n (pc := 53) dX0_spread_53 rfl 3 rfl ?_
      obtain ⟨M15, hc16, h⟩ := obind_e h
      refine J_callV (g := mi_X0_spreadAlong) (ci := 0) (pc := 54) [.int v12, .int x4, .int (1 : Int32), .int a1, .int a3] [] mv_X0_spreadAlong w_446 (k_X0_spreadAlong v12 x4 (1 : Int32) a1 a3 _ hc16) rfl (by decide) rfl rfl rfl ⟨⟨Nat.le_of_ble_eq_true rfl, Nat.le_of_ble_eq_true rfl⟩, Nat.le_of_ble_eq_true rfl, Nat.le_of_ble_eq_true rfl⟩ (Nat.le_of_ble_eq_true rfl) dX0_spread_54 (Jk_0 rfl rfl ?_)
      refine J_aload_n (pc := 57) dX0_spread_57 rfl 0 rfl ?_
      refine J_aload_n (pc := 58) dX0_spread_58 rfl 0 rfl ?_
      refine J_get (c := 44) (ci := 0) (v := .ref 48) (pc := 59) rfl (by decide) rfl lay_X0 3 (by decide) w_164 rfl rfl dX0_spread_59 ?_
      refine J_iload_n (pc := 62) dX0_spread_62 rfl 2 rfl ?_
      obtain ⟨v17, e18, hk19, h⟩ := ldi_e h
      refine J_iald (c := 48) (N := 4096) (pc := 63) rfl (by decide) hk19 dX0_spread_63 ?_
      refine J_topi e18 ?_
      refine J_iload (pc := 64) dX0_spread_64 4 rfl ?_
      refine J_iconst (v := (-1 : Int32)) (pc := 66) dX0_spread_66 (by decide) ?_
      refine J_iload_n (pc := 67) dX0_spread_67 rfl 1 rfl ?_
      refine J_iload_n (pc := 68) dX0_spread_68 rfl 3 rfl ?_
      obtain ⟨M20, hc21, h⟩ := obind_e h
      refine J_callV (g := mi_X0_spreadAlong) (ci := 0) (pc := 69) [.int v17, .int x4, .int (-1 : Int32), .int a1, .int a3] [] mv_X0_spreadAlong w_446 (k_X0_spreadAlong v17 x4 (-1 : Int32) a1 a3 _ hc21) rfl (by decide) rfl rfl rfl ⟨⟨Nat.le_of_ble_eq_true rfl, Nat.le_of_ble_eq_true rfl⟩, Nat.le_of_ble_eq_true rfl, Nat.le_of_ble_eq_true rfl⟩ (Nat.le_of_ble_eq_true rfl) dX0_spread_69 (Jk_0 rfl rfl ?_)
      obtain ⟨v22, e23, h⟩ := bnd_e h
      refine J_iinc (v := v22) (pc := 72) dX0_spread_72 4 rfl (by rw [e23]; rfl) (Nat.le_of_ble_eq_true rfl) [1, 2, 3, 4, 0] rfl ?_
      refine J_goto (pc := 75) (tgt := 33) dX0_spread_75 (by decide) ?_
      exact ih _ _ h
set_option maxHeartbeats 4000000 in
set_option maxRecDepth 100000 in
theorem kL_X0_spread_L2 {κ : Kx} {E : En} {Q : State → Prop} {k n : Nat} {ρ : Type} {r : ρ} (a1 : Int32) (K84 : Wd → Option ρ) (hK84 : ∀ (M : Wd), K84 M = some r → J κ E mi_X0_spread Q k n [] M 84 []) : ∀ (m : Nat) (x2 : Int32) (M : Wd), F_X0_spread_L2 a1 K84 m x2 M = some r → J κ E mi_X0_spread Q k n [(0, .ref 44), (1, .int a1), (2, .int x2)] M 2 [] := by
  intro m
  induction m with
  | zero => intro x2 M h; exact (nomatch (show (none : Option ρ) = some r from h))
  | succ m ih =>
    intro x2 M h
    unfold F_X0_spread_L2 at h
    refine J_iload_n (pc := 2) dX0_spread_2 rfl 2 rfl ?_
    refine J_aload_n (pc := 3) dX0_spread_3 rfl 0 rfl ?_
    refine J_get (c := 44) (ci := 0) (v := .int (M.1 44 9)) (pc := 4) rfl (by decide) rfl lay_X0 9 (by decide) w_171 rfl rfl dX0_spread_4 ?_
    refine J_icmp_ge (pc := 7) (tgt := 84) dX0_spread_7 (by decide) (fun c1 => ?_) (fun c1 => ?_)
    · replace h := ifp c1 h
      refine J_sub [] rfl ?_
      exact hK84 _ h
    · replace h := ifn c1 h
      refine J_iload_n (pc := 10) dX0_spread_10 rfl 2 rfl ?_
      refine J_sipush (v := (4096 : Int32)) (pc := 11) dX0_spread_11 (by decide) ?_
      refine J_icmp_ge (pc := 14) (tgt := 84) dX0_spread_14 (by decide) (fun c2 => ?_) (fun c2 => ?_)
      · replace h := ifp c2 h
        refine J_sub [] rfl ?_
        exact hK84 _ h
      · replace h := ifn c2 h
        refine J_aload_n (pc := 17) dX0_spread_17 rfl 0 rfl ?_
        refine J_aload_n (pc := 18) dX0_spread_18 rfl 0 rfl ?_
        refine J_get (c := 44) (ci := 0) (v := .ref 48) (pc := 19) rfl (by decide) rfl lay_X0 3 (by decide) w_164 rfl rfl dX0_spread_19 ?_
        refine J_iload_n (pc := 22) dX0_spread_22 rfl 2 rfl ?_
        obtain ⟨v3, e4, hk5, h⟩ := ldi_e h
        refine J_iald (c := 48) (N := 4096) (pc := 23) rfl (by decide) hk5 dX0_spread_23 ?_
        refine J_topi e4 ?_
        obtain ⟨v6, hc7, h⟩ := obind_e h
        refine J_callV (g := mi_X0_costOf) (ci := 0) (pc := 24) [.int v3] [] mv_X0_costOf w_438 (k_X0_costOf v3 _ hc7) rfl (by decide) rfl rfl rfl ⟨⟨Nat.le_of_ble_eq_true rfl, Nat.le_of_ble_eq_true rfl⟩, Nat.le_of_ble_eq_true rfl, Nat.le_of_ble_eq_true rfl⟩ (Nat.le_of_ble_eq_true rfl) dX0_spread_24 (Jk_v rfl rfl fun hok8 => ?_)
        refine J_iconst (v := (1 : Int32)) (pc := 27) dX0_spread_27 (by decide) ?_
        refine J_iadd (pc := 28) dX0_spread_28 ?_
        obtain ⟨v9, e10, h⟩ := bnd_e h
        refine J_topi e10 ?_
        refine J_istore_n (pc := 29) dX0_spread_29 rfl (Nat.le_of_ble_eq_true rfl) [1, 2, 3, 0] rfl ?_
        refine J_iconst (v := (0 : Int32)) (pc := 30) dX0_spread_30 (by decide) ?_
        refine J_istore (pc := 31) dX0_spread_31 (Nat.le_of_ble_eq_true rfl) [1, 2, 3, 4, 0] rfl ?_
        refine kL_X0_spread_L33 _ _ _ _ (fun M24 h => ?_) fuelN _ _ h
        obtain ⟨v25, e26, h⟩ := bnd_e h
        refine J_iinc (v := v25) (pc := 78) dX0_spread_78 2 rfl (by rw [e26]; rfl) (Nat.le_of_ble_eq_true rfl) [1, 2, 0] rfl ?_
        refine J_goto (pc := 81) (tgt := 2) dX0_spread_81 (by decide) ?_
        exact ih _ _ h
set_option maxHeartbeats 4000000 in
set_option maxRecDepth 100000 in
theorem k_X0_spread {E : En} (a1 : Int32) (M : Wd) {M' : Wd} (h : F_X0_spread a1 M = some M') : Con E mi_X0_spread [.ref 44, .int a1] M (.inl none) M' := by
  unfold F_X0_spread at h
  refine Con.of (by decide) rfl (by decide) (fun κ => ?_)
  show J κ E mi_X0_spread _ 0 0 [(0, .ref 44), (1, .int a1)] M 0 []
  refine J_iconst (v := (0 : Int32)) (pc := 0) dX0_spread_0 (by decide) ?_
  refine J_istore_n (pc := 1) dX0_spread_1 rfl (Nat.le_of_ble_eq_true rfl) [1, 2, 0] rfl ?_
  refine kL_X0_spread_L2 _ _ (fun M27 h => ?_) fuelN _ _ h
  cases h
  exact J_return dX0_spread_84 rfl rfl rfl rfl rfl
set_option maxHeartbeats 4000000 in
set_option maxRecDepth 100000 in
theorem k_X0_spreadFromStart {E : En} (a1 : Int32) (M : Wd) {M' : Wd} (h : F_X0_spreadFromStart a1 M = some M') : Con E mi_X0_spreadFromStart [.ref 44, .int a1] M (.inl none) M' := by
  unfold F_X0_spreadFromStart at h
  refine Con.of (by decide) rfl (by decide) (fun κ => ?_)
  show J κ E mi_X0_spreadFromStart _ 0 0 [(0, .ref 44), (1, .int a1)] M 0 []
  refine J_aload_n (pc := 0) dX0_spreadFromStart_0 rfl 0 rfl ?_
  obtain ⟨M1, hc2, h⟩ := obind_e h
  refine J_callV (g := mi_X0_forget) (ci := 0) (pc := 1) [] [] mv_X0_forget w_426 (k_X0_forget _ hc2) rfl (by decide) rfl rfl rfl ⟨⟨Nat.le_of_ble_eq_true rfl, Nat.le_of_ble_eq_true rfl⟩, Nat.le_of_ble_eq_true rfl, Nat.le_of_ble_eq_true rfl⟩ (Nat.le_of_ble_eq_true rfl) dX0_spreadFromStart_1 (Jk_0 rfl rfl ?_)
  refine J_aload_n (pc := 4) dX0_spreadFromStart_4 rfl 0 rfl ?_
  refine J_aload_n (pc := 5) dX0_spreadFromStart_5 rfl 0 rfl ?_
  refine J_get (c := 44) (ci := 0) (v := .int (M1.1 44 8)) (pc := 6) rfl (by decide) rfl lay_X0 8 (by decide) w_169 rfl rfl dX0_spreadFromStart_6 ?_
  refine J_iconst (v := (0 : Int32)) (pc := 9) dX0_spreadFromStart_9 (by decide) ?_
  obtain ⟨M3, hc4, h⟩ := obind_e h
  refine J_callV (g := mi_X0_find) (ci := 0) (pc := 10) [.int (M1.1 44 8), .int (0 : Int32)] [] mv_X0_find w_430 (k_X0_find (M1.1 44 8) (0 : Int32) _ hc4) rfl (by decide) rfl rfl rfl ⟨⟨Nat.le_of_ble_eq_true rfl, Nat.le_of_ble_eq_true rfl⟩, Nat.le_of_ble_eq_true rfl, Nat.le_of_ble_eq_true rfl⟩ (Nat.le_of_ble_eq_true rfl) dX0_spreadFromStart_10 (Jk_0 rfl rfl ?_)
  refine J_aload_n (pc := 13) dX0_spreadFromStart_13 rfl 0 rfl ?_
  refine J_iload_n (pc := 14) dX0_spreadFromStart_14 rfl 1 rfl ?_
  obtain ⟨M5, hc6, h⟩ := obind_e h
  refine J_callV (g := mi_X0_spread) (ci := 0) (pc := 15) [.int a1] [] mv_X0_spread w_434 (k_X0_spread a1 _ hc6) rfl (by decide) rfl rfl rfl ⟨⟨Nat.le_of_ble_eq_true rfl, Nat.le_of_ble_eq_true rfl⟩, Nat.le_of_ble_eq_true rfl, Nat.le_of_ble_eq_true rfl⟩ (Nat.le_of_ble_eq_true rfl) dX0_spreadFromStart_15 (Jk_0 rfl rfl ?_)
  cases h
  exact J_return dX0_spreadFromStart_18 rfl rfl rfl rfl rfl
set_option maxHeartbeats 4000000 in
set_option maxRecDepth 100000 in
theorem kL_X0_leastCostOut_L4 {κ : Kx} {E : En} {Q : State → Prop} {k n : Nat} {ρ : Type} {r : ρ} (M : Wd) (K53 : Int32 → Option ρ) (hK53 : ∀ (x1 : Int32), K53 x1 = some r → J κ E mi_X0_leastCostOut Q k n [(1, .int x1)] M 53 []) : ∀ (m : Nat) (x1 : Int32) (x2 : Int32), F_X0_leastCostOut_L4 M K53 m x1 x2 = some r → J κ E mi_X0_leastCostOut Q k n [(0, .ref 44), (1, .int x1), (2, .int x2)] M 4 [] := by
  intro m
  induction m with
  | zero => intro x1 x2 h; exact (nomatch (show (none : Option ρ) = some r from h))
  | succ m ih =>
    intro x1 x2 h
    unfold F_X0_leastCostOut_L4 at h
    refine J_iload_n (pc := 4) dX0_leastCostOut_4 rfl 2 rfl ?_
    refine J_aload_n (pc := 5) dX0_leastCostOut_5 rfl 0 rfl ?_
    refine J_get (c := 44) (ci := 0) (v := .int (M.1 44 7)) (pc := 6) rfl (by decide) rfl lay_X0 7 (by decide) w_168 rfl rfl dX0_leastCostOut_6 ?_
    refine J_icmp_ge (pc := 9) (tgt := 53) dX0_leastCostOut_9 (by decide) (fun c1 => ?_) (fun c1 => ?_)
    · replace h := ifp c1 h
      refine J_sub [1] rfl ?_
      exact hK53 _ h
    · replace h := ifn c1 h
      refine J_aload_n (pc := 12) dX0_leastCostOut_12 rfl 0 rfl ?_
      refine J_iload_n (pc := 13) dX0_leastCostOut_13 rfl 2 rfl ?_
      refine J_callV (g := mi_X0_isOutIn) (ci := 0) (pc := 14) [.int x2] [] mv_X0_isOutIn w_458 (k_X0_isOutIn x2 _) rfl (by decide) rfl rfl rfl ⟨⟨Nat.le_of_ble_eq_true rfl, Nat.le_of_ble_eq_true rfl⟩, Nat.le_of_ble_eq_true rfl, Nat.le_of_ble_eq_true rfl⟩ (Nat.le_of_ble_eq_true rfl) dX0_leastCostOut_14 (Jk_v rfl rfl fun hok2 => ?_)
      obtain ⟨v3, hv8, h⟩ := obind_e h
      refine J_join [(0, .ref 44), (1, .int x1), (2, .int x2)] M 29 [.int v3] ?_ (fun hJ => ?_)
      · refine J_istore_n (pc := 29) dX0_leastCostOut_29 rfl (Nat.le_of_ble_eq_true rfl) [1, 2, 3, 0] rfl ?_
        refine J_iload_n (pc := 30) dX0_leastCostOut_30 rfl 3 rfl ?_
        refine J_iconst (v := (-1 : Int32)) (pc := 31) dX0_leastCostOut_31 (by decide) ?_
        obtain ⟨v9, e10, h⟩ := bnd_e h
        refine J_join [(0, .ref 44), (1, .int v9), (2, .int x2)] M 47 [] ?_ (fun hJ => ?_)
        · obtain ⟨v14, e15, h⟩ := bnd_e h
          refine J_iinc (v := v14) (pc := 47) dX0_leastCostOut_47 2 rfl (by rw [e15]; rfl) (Nat.le_of_ble_eq_true rfl) [1, 2, 0] rfl ?_
          refine J_goto (pc := 50) (tgt := 4) dX0_leastCostOut_50 (by decide) ?_
          exact ih _ _ h
        · refine J_icmp_eq (pc := 32) (tgt := 47) dX0_leastCostOut_32 (by decide) (fun c11 => ?_) (fun c11 => ?_)
          · refine J_sub [0, 1, 2] rfl ?_
            refine J_LS [(0, .ref 44), (1, .int v9), (2, .int x2)] [] (by rw [e10, if_pos c11]) rfl ?_
            exact hJ
          · refine J_iload_n (pc := 35) dX0_leastCostOut_35 rfl 1 rfl ?_
            refine J_iconst (v := (-1 : Int32)) (pc := 36) dX0_leastCostOut_36 (by decide) ?_
            refine J_icmp_eq (pc := 37) (tgt := 45) dX0_leastCostOut_37 (by decide) (fun c12 => ?_) (fun c12 => ?_)
            · refine J_iload_n (pc := 45) dX0_leastCostOut_45 rfl 3 rfl ?_
              refine J_istore_n (pc := 46) dX0_leastCostOut_46 rfl (Nat.le_of_ble_eq_true rfl) [1, 0, 2, 3] rfl ?_
              refine J_sub [0, 1, 2] rfl ?_
              refine J_LS [(0, .ref 44), (1, .int v9), (2, .int x2)] [] (by rw [e10, if_neg c11, if_pos c12]) rfl ?_
              exact hJ
            · refine J_iload_n (pc := 40) dX0_leastCostOut_40 rfl 3 rfl ?_
              refine J_iload_n (pc := 41) dX0_leastCostOut_41 rfl 1 rfl ?_
              refine J_icmp_ge (pc := 42) (tgt := 47) dX0_leastCostOut_42 (by decide) (fun c13 => ?_) (fun c13 => ?_)
              · refine J_sub [0, 1, 2] rfl ?_
                refine J_LS [(0, .ref 44), (1, .int v9), (2, .int x2)] [] (by rw [e10, if_neg c11, if_neg c12, if_pos c13]) rfl ?_
                exact hJ
              · refine J_iload_n (pc := 45) dX0_leastCostOut_45 rfl 3 rfl ?_
                refine J_istore_n (pc := 46) dX0_leastCostOut_46 rfl (Nat.le_of_ble_eq_true rfl) [1, 0, 2, 3] rfl ?_
                refine J_sub [0, 1, 2] rfl ?_
                refine J_LS [(0, .ref 44), (1, .int v9), (2, .int x2)] [] (by rw [e10, if_neg c11, if_neg c12, if_neg c13]) rfl ?_
                exact hJ
      · replace h := hv8
        refine J_if_eq (pc := 17) (tgt := 28) dX0_leastCostOut_17 (by decide) (fun c4 => ?_) (fun c4 => ?_)
        · replace h := ifp c4 h
          refine J_iconst (v := (-1 : Int32)) (pc := 28) dX0_leastCostOut_28 (by decide) ?_
          cases h
          exact hJ
        · replace h := ifn c4 h
          refine J_aload_n (pc := 20) dX0_leastCostOut_20 rfl 0 rfl ?_
          refine J_iload_n (pc := 21) dX0_leastCostOut_21 rfl 2 rfl ?_
          obtain ⟨v5, hc6, h⟩ := obind_e h
          refine J_callV (g := mi_X0_costOf) (ci := 0) (pc := 22) [.int x2] [] mv_X0_costOf w_438 (k_X0_costOf x2 _ hc6) rfl (by decide) rfl rfl rfl ⟨⟨Nat.le_of_ble_eq_true rfl, Nat.le_of_ble_eq_true rfl⟩, Nat.le_of_ble_eq_true rfl, Nat.le_of_ble_eq_true rfl⟩ (Nat.le_of_ble_eq_true rfl) dX0_leastCostOut_22 (Jk_v rfl rfl fun hok7 => ?_)
          refine J_goto (pc := 25) (tgt := 29) dX0_leastCostOut_25 (by decide) ?_
          cases h
          exact hJ
set_option maxHeartbeats 4000000 in
set_option maxRecDepth 100000 in
theorem k_X0_leastCostOut {E : En} (M : Wd) {r : Int32} (h : F_X0_leastCostOut M = some r) : Con E mi_X0_leastCostOut [.ref 44] M (.inl (some (.int r))) M := by
  unfold F_X0_leastCostOut at h
  refine Con.of (by decide) rfl (by decide) (fun κ => ?_)
  show J κ E mi_X0_leastCostOut _ 0 0 [(0, .ref 44)] M 0 []
  refine J_iconst (v := (-1 : Int32)) (pc := 0) dX0_leastCostOut_0 (by decide) ?_
  refine J_istore_n (pc := 1) dX0_leastCostOut_1 rfl (Nat.le_of_ble_eq_true rfl) [1, 0] rfl ?_
  refine J_iconst (v := (0 : Int32)) (pc := 2) dX0_leastCostOut_2 (by decide) ?_
  refine J_istore_n (pc := 3) dX0_leastCostOut_3 rfl (Nat.le_of_ble_eq_true rfl) [1, 2, 0] rfl ?_
  refine kL_X0_leastCostOut_L4 _ _ (fun v16 h => ?_) fuelN _ _ h
  refine J_iload_n (pc := 53) dX0_leastCostOut_53 rfl 0 rfl ?_
  cases h
  exact J_ireturn dX0_leastCostOut_54 rfl rfl rfl rfl rfl
set_option maxHeartbeats 4000000 in
set_option maxRecDepth 100000 in
theorem k_X0_slidesFromStart {E : En} (M : Wd) {r : Int32} {M' : Wd} (h : F_X0_slidesFromStart M = some (r, M')) : Con E mi_X0_slidesFromStart [.ref 44] M (.inl (some (.int r))) M' := by
  unfold F_X0_slidesFromStart at h
  refine Con.of (by decide) rfl (by decide) (fun κ => ?_)
  show J κ E mi_X0_slidesFromStart _ 0 0 [(0, .ref 44)] M 0 []
  refine J_aload_n (pc := 0) dX0_slidesFromStart_0 rfl 0 rfl ?_
  refine J_iconst (v := (3 : Int32)) (pc := 1) dX0_slidesFromStart_1 (by decide) ?_
  obtain ⟨M1, hc2, h⟩ := obind_e h
  refine J_callV (g := mi_X0_spreadFromStart) (ci := 0) (pc := 2) [.int (3 : Int32)] [] mv_X0_spreadFromStart w_422 (k_X0_spreadFromStart (3 : Int32) _ hc2) rfl (by decide) rfl rfl rfl ⟨⟨Nat.le_of_ble_eq_true rfl, Nat.le_of_ble_eq_true rfl⟩, Nat.le_of_ble_eq_true rfl, Nat.le_of_ble_eq_true rfl⟩ (Nat.le_of_ble_eq_true rfl) dX0_slidesFromStart_2 (Jk_0 rfl rfl ?_)
  refine J_aload_n (pc := 5) dX0_slidesFromStart_5 rfl 0 rfl ?_
  obtain ⟨v3, hc4, h⟩ := obind_e h
  refine J_callV (g := mi_X0_leastCostOut) (ci := 0) (pc := 6) [] [] mv_X0_leastCostOut w_454 (k_X0_leastCostOut _ hc4) rfl (by decide) rfl rfl rfl ⟨⟨Nat.le_of_ble_eq_true rfl, Nat.le_of_ble_eq_true rfl⟩, Nat.le_of_ble_eq_true rfl, Nat.le_of_ble_eq_true rfl⟩ (Nat.le_of_ble_eq_true rfl) dX0_slidesFromStart_6 (Jk_v rfl rfl fun hok5 => ?_)
  cases h
  exact J_ireturn dX0_slidesFromStart_9 rfl rfl rfl rfl rfl
set_option maxHeartbeats 4000000 in
set_option maxRecDepth 100000 in
theorem k_X0_stepsFromStart {E : En} (M : Wd) {r : Int32} {M' : Wd} (h : F_X0_stepsFromStart M = some (r, M')) : Con E mi_X0_stepsFromStart [.ref 44] M (.inl (some (.int r))) M' := by
  unfold F_X0_stepsFromStart at h
  refine Con.of (by decide) rfl (by decide) (fun κ => ?_)
  show J κ E mi_X0_stepsFromStart _ 0 0 [(0, .ref 44)] M 0 []
  refine J_aload_n (pc := 0) dX0_stepsFromStart_0 rfl 0 rfl ?_
  refine J_iconst (v := (1 : Int32)) (pc := 1) dX0_stepsFromStart_1 (by decide) ?_
  obtain ⟨M1, hc2, h⟩ := obind_e h
  refine J_callV (g := mi_X0_spreadFromStart) (ci := 0) (pc := 2) [.int (1 : Int32)] [] mv_X0_spreadFromStart w_422 (k_X0_spreadFromStart (1 : Int32) _ hc2) rfl (by decide) rfl rfl rfl ⟨⟨Nat.le_of_ble_eq_true rfl, Nat.le_of_ble_eq_true rfl⟩, Nat.le_of_ble_eq_true rfl, Nat.le_of_ble_eq_true rfl⟩ (Nat.le_of_ble_eq_true rfl) dX0_stepsFromStart_2 (Jk_0 rfl rfl ?_)
  refine J_aload_n (pc := 5) dX0_stepsFromStart_5 rfl 0 rfl ?_
  obtain ⟨v3, hc4, h⟩ := obind_e h
  refine J_callV (g := mi_X0_leastCostOut) (ci := 0) (pc := 6) [] [] mv_X0_leastCostOut w_454 (k_X0_leastCostOut _ hc4) rfl (by decide) rfl rfl rfl ⟨⟨Nat.le_of_ble_eq_true rfl, Nat.le_of_ble_eq_true rfl⟩, Nat.le_of_ble_eq_true rfl, Nat.le_of_ble_eq_true rfl⟩ (Nat.le_of_ble_eq_true rfl) dX0_stepsFromStart_6 (Jk_v rfl rfl fun hok5 => ?_)
  cases h
  exact J_ireturn dX0_stepsFromStart_9 rfl rfl rfl rfl rfl
set_option maxHeartbeats 4000000 in
set_option maxRecDepth 100000 in
theorem kL_X0_slidesFromEnds_L6 {κ : Kx} {E : En} {Q : State → Prop} {k n : Nat} {ρ : Type} {r : ρ} (K34 : Wd → Option ρ) (hK34 : ∀ (M : Wd), K34 M = some r → J κ E mi_X0_slidesFromEnds Q k n [(0, .ref 44)] M 34 []) : ∀ (m : Nat) (x1 : Int32) (M : Wd), F_X0_slidesFromEnds_L6 K34 m x1 M = some r → J κ E mi_X0_slidesFromEnds Q k n [(0, .ref 44), (1, .int x1)] M 6 [] := by
  intro m
  induction m with
  | zero => intro x1 M h; exact (nomatch (show (none : Option ρ) = some r from h))
  | succ m ih =>
    intro x1 M h
    unfold F_X0_slidesFromEnds_L6 at h
    refine J_iload_n (pc := 6) dX0_slidesFromEnds_6 rfl 1 rfl ?_
    refine J_aload_n (pc := 7) dX0_slidesFromEnds_7 rfl 0 rfl ?_
    refine J_get (c := 44) (ci := 0) (v := .int (M.1 44 7)) (pc := 8) rfl (by decide) rfl lay_X0 7 (by decide) w_168 rfl rfl dX0_slidesFromEnds_8 ?_
    refine J_icmp_ge (pc := 11) (tgt := 34) dX0_slidesFromEnds_11 (by decide) (fun c3 => ?_) (fun c3 => ?_)
    · replace h := ifp c3 h
      refine J_sub [0] rfl ?_
      exact hK34 _ h
    · replace h := ifn c3 h
      refine J_aload_n (pc := 14) dX0_slidesFromEnds_14 rfl 0 rfl ?_
      refine J_iload_n (pc := 15) dX0_slidesFromEnds_15 rfl 1 rfl ?_
      refine J_callV (g := mi_X0_isOutIn) (ci := 0) (pc := 16) [.int x1] [] mv_X0_isOutIn w_458 (k_X0_isOutIn x1 _) rfl (by decide) rfl rfl rfl ⟨⟨Nat.le_of_ble_eq_true rfl, Nat.le_of_ble_eq_true rfl⟩, Nat.le_of_ble_eq_true rfl, Nat.le_of_ble_eq_true rfl⟩ (Nat.le_of_ble_eq_true rfl) dX0_slidesFromEnds_16 (Jk_v rfl rfl fun hok4 => ?_)
      obtain ⟨M5, hv9, h⟩ := obind_e h
      refine J_join [(0, .ref 44), (1, .int x1)] M5 28 [] ?_ (fun hJ => ?_)
      · obtain ⟨v10, e11, h⟩ := bnd_e h
        refine J_iinc (v := v10) (pc := 28) dX0_slidesFromEnds_28 1 rfl (by rw [e11]; rfl) (Nat.le_of_ble_eq_true rfl) [1, 0] rfl ?_
        refine J_goto (pc := 31) (tgt := 6) dX0_slidesFromEnds_31 (by decide) ?_
        exact ih _ _ h
      · replace h := hv9
        refine J_if_eq (pc := 19) (tgt := 28) dX0_slidesFromEnds_19 (by decide) (fun c6 => ?_) (fun c6 => ?_)
        · replace h := ifp c6 h
          cases h
          exact hJ
        · replace h := ifn c6 h
          refine J_aload_n (pc := 22) dX0_slidesFromEnds_22 rfl 0 rfl ?_
          refine J_iload_n (pc := 23) dX0_slidesFromEnds_23 rfl 1 rfl ?_
          refine J_iconst (v := (0 : Int32)) (pc := 24) dX0_slidesFromEnds_24 (by decide) ?_
          obtain ⟨M7, hc8, h⟩ := obind_e h
          refine J_callV (g := mi_X0_find) (ci := 0) (pc := 25) [.int x1, .int (0 : Int32)] [] mv_X0_find w_430 (k_X0_find x1 (0 : Int32) _ hc8) rfl (by decide) rfl rfl rfl ⟨⟨Nat.le_of_ble_eq_true rfl, Nat.le_of_ble_eq_true rfl⟩, Nat.le_of_ble_eq_true rfl, Nat.le_of_ble_eq_true rfl⟩ (Nat.le_of_ble_eq_true rfl) dX0_slidesFromEnds_25 (Jk_0 rfl rfl ?_)
          cases h
          exact hJ
set_option maxHeartbeats 4000000 in
set_option maxRecDepth 100000 in
theorem k_X0_slidesFromEnds {E : En} (M : Wd) {r : Int32} {M' : Wd} (h : F_X0_slidesFromEnds M = some (r, M')) : Con E mi_X0_slidesFromEnds [.ref 44] M (.inl (some (.int r))) M' := by
  unfold F_X0_slidesFromEnds at h
  refine Con.of (by decide) rfl (by decide) (fun κ => ?_)
  show J κ E mi_X0_slidesFromEnds _ 0 0 [(0, .ref 44)] M 0 []
  refine J_aload_n (pc := 0) dX0_slidesFromEnds_0 rfl 0 rfl ?_
  obtain ⟨M1, hc2, h⟩ := obind_e h
  refine J_callV (g := mi_X0_forget) (ci := 0) (pc := 1) [] [] mv_X0_forget w_426 (k_X0_forget _ hc2) rfl (by decide) rfl rfl rfl ⟨⟨Nat.le_of_ble_eq_true rfl, Nat.le_of_ble_eq_true rfl⟩, Nat.le_of_ble_eq_true rfl, Nat.le_of_ble_eq_true rfl⟩ (Nat.le_of_ble_eq_true rfl) dX0_slidesFromEnds_1 (Jk_0 rfl rfl ?_)
  refine J_iconst (v := (0 : Int32)) (pc := 4) dX0_slidesFromEnds_4 (by decide) ?_
  refine J_istore_n (pc := 5) dX0_slidesFromEnds_5 rfl (Nat.le_of_ble_eq_true rfl) [1, 0] rfl ?_
  refine kL_X0_slidesFromEnds_L6 _ (fun M12 h => ?_) fuelN _ _ h
  refine J_aload_n (pc := 34) dX0_slidesFromEnds_34 rfl 0 rfl ?_
  refine J_iconst (v := (3 : Int32)) (pc := 35) dX0_slidesFromEnds_35 (by decide) ?_
  obtain ⟨M13, hc14, h⟩ := obind_e h
  refine J_callV (g := mi_X0_spread) (ci := 0) (pc := 36) [.int (3 : Int32)] [] mv_X0_spread w_434 (k_X0_spread (3 : Int32) _ hc14) rfl (by decide) rfl rfl rfl ⟨⟨Nat.le_of_ble_eq_true rfl, Nat.le_of_ble_eq_true rfl⟩, Nat.le_of_ble_eq_true rfl, Nat.le_of_ble_eq_true rfl⟩ (Nat.le_of_ble_eq_true rfl) dX0_slidesFromEnds_36 (Jk_0 rfl rfl ?_)
  refine J_aload_n (pc := 39) dX0_slidesFromEnds_39 rfl 0 rfl ?_
  refine J_aload_n (pc := 40) dX0_slidesFromEnds_40 rfl 0 rfl ?_
  refine J_get (c := 44) (ci := 0) (v := .int (M13.1 44 8)) (pc := 41) rfl (by decide) rfl lay_X0 8 (by decide) w_169 rfl rfl dX0_slidesFromEnds_41 ?_
  obtain ⟨v15, hc16, h⟩ := obind_e h
  refine J_callV (g := mi_X0_costOf) (ci := 0) (pc := 44) [.int (M13.1 44 8)] [] mv_X0_costOf w_438 (k_X0_costOf (M13.1 44 8) _ hc16) rfl (by decide) rfl rfl rfl ⟨⟨Nat.le_of_ble_eq_true rfl, Nat.le_of_ble_eq_true rfl⟩, Nat.le_of_ble_eq_true rfl, Nat.le_of_ble_eq_true rfl⟩ (Nat.le_of_ble_eq_true rfl) dX0_slidesFromEnds_44 (Jk_v rfl rfl fun hok17 => ?_)
  cases h
  exact J_ireturn dX0_slidesFromEnds_47 rfl rfl rfl rfl rfl
set_option maxHeartbeats 4000000 in
set_option maxRecDepth 100000 in
theorem kL_X0_foundOut_L4 {κ : Kx} {E : En} {Q : State → Prop} {k n : Nat} {ρ : Type} {r : ρ} (M : Wd) (K41 : Int32 → Option ρ) (hK41 : ∀ (x1 : Int32), K41 x1 = some r → J κ E mi_X0_foundOut Q k n [(1, .int x1)] M 41 []) : ∀ (m : Nat) (x1 : Int32) (x2 : Int32), F_X0_foundOut_L4 M K41 m x1 x2 = some r → J κ E mi_X0_foundOut Q k n [(0, .ref 44), (1, .int x1), (2, .int x2)] M 4 [] := by
  intro m
  induction m with
  | zero => intro x1 x2 h; exact (nomatch (show (none : Option ρ) = some r from h))
  | succ m ih =>
    intro x1 x2 h
    unfold F_X0_foundOut_L4 at h
    refine J_iload_n (pc := 4) dX0_foundOut_4 rfl 2 rfl ?_
    refine J_aload_n (pc := 5) dX0_foundOut_5 rfl 0 rfl ?_
    refine J_get (c := 44) (ci := 0) (v := .int (M.1 44 9)) (pc := 6) rfl (by decide) rfl lay_X0 9 (by decide) w_171 rfl rfl dX0_foundOut_6 ?_
    refine J_icmp_ge (pc := 9) (tgt := 41) dX0_foundOut_9 (by decide) (fun c1 => ?_) (fun c1 => ?_)
    · replace h := ifp c1 h
      refine J_sub [1] rfl ?_
      exact hK41 _ h
    · replace h := ifn c1 h
      refine J_iload_n (pc := 12) dX0_foundOut_12 rfl 2 rfl ?_
      refine J_sipush (v := (4096 : Int32)) (pc := 13) dX0_foundOut_13 (by decide) ?_
      refine J_icmp_ge (pc := 16) (tgt := 41) dX0_foundOut_16 (by decide) (fun c2 => ?_) (fun c2 => ?_)
      · replace h := ifp c2 h
        refine J_sub [1] rfl ?_
        exact hK41 _ h
      · replace h := ifn c2 h
        refine J_aload_n (pc := 19) dX0_foundOut_19 rfl 0 rfl ?_
        refine J_aload_n (pc := 20) dX0_foundOut_20 rfl 0 rfl ?_
        refine J_get (c := 44) (ci := 0) (v := .ref 48) (pc := 21) rfl (by decide) rfl lay_X0 3 (by decide) w_164 rfl rfl dX0_foundOut_21 ?_
        refine J_iload_n (pc := 24) dX0_foundOut_24 rfl 2 rfl ?_
        obtain ⟨v3, e4, hk5, h⟩ := ldi_e h
        refine J_iald (c := 48) (N := 4096) (pc := 25) rfl (by decide) hk5 dX0_foundOut_25 ?_
        refine J_topi e4 ?_
        refine J_callV (g := mi_X0_isOutIn) (ci := 0) (pc := 26) [.int v3] [] mv_X0_isOutIn w_458 (k_X0_isOutIn v3 _) rfl (by decide) rfl rfl rfl ⟨⟨Nat.le_of_ble_eq_true rfl, Nat.le_of_ble_eq_true rfl⟩, Nat.le_of_ble_eq_true rfl, Nat.le_of_ble_eq_true rfl⟩ (Nat.le_of_ble_eq_true rfl) dX0_foundOut_26 (Jk_v rfl rfl fun hok6 => ?_)
        obtain ⟨v7, e8, h⟩ := bnd_e h
        refine J_join [(0, .ref 44), (1, .int v7), (2, .int x2)] M 35 [] ?_ (fun hJ => ?_)
        · obtain ⟨v10, e11, h⟩ := bnd_e h
          refine J_iinc (v := v10) (pc := 35) dX0_foundOut_35 2 rfl (by rw [e11]; rfl) (Nat.le_of_ble_eq_true rfl) [1, 2, 0] rfl ?_
          refine J_goto (pc := 38) (tgt := 4) dX0_foundOut_38 (by decide) ?_
          exact ih _ _ h
        · refine J_if_eq (pc := 29) (tgt := 35) dX0_foundOut_29 (by decide) (fun c9 => ?_) (fun c9 => ?_)
          · refine J_LS [(0, .ref 44), (1, .int v7), (2, .int x2)] [] (by rw [e8, if_pos c9]) rfl ?_
            exact hJ
          · refine J_iinc (v := (x1 + (1 : Int32))) (pc := 32) dX0_foundOut_32 1 rfl rfl (Nat.le_of_ble_eq_true rfl) [1, 0, 2] rfl ?_
            refine J_LS [(0, .ref 44), (1, .int v7), (2, .int x2)] [] (by rw [e8, if_neg c9]) rfl ?_
            exact hJ
set_option maxHeartbeats 4000000 in
set_option maxRecDepth 100000 in
theorem k_X0_foundOut {E : En} (M : Wd) {r : Int32} (h : F_X0_foundOut M = some r) : Con E mi_X0_foundOut [.ref 44] M (.inl (some (.int r))) M := by
  unfold F_X0_foundOut at h
  refine Con.of (by decide) rfl (by decide) (fun κ => ?_)
  show J κ E mi_X0_foundOut _ 0 0 [(0, .ref 44)] M 0 []
  refine J_iconst (v := (0 : Int32)) (pc := 0) dX0_foundOut_0 (by decide) ?_
  refine J_istore_n (pc := 1) dX0_foundOut_1 rfl (Nat.le_of_ble_eq_true rfl) [1, 0] rfl ?_
  refine J_iconst (v := (0 : Int32)) (pc := 2) dX0_foundOut_2 (by decide) ?_
  refine J_istore_n (pc := 3) dX0_foundOut_3 rfl (Nat.le_of_ble_eq_true rfl) [1, 2, 0] rfl ?_
  refine kL_X0_foundOut_L4 _ _ (fun v12 h => ?_) fuelN _ _ h
  refine J_iload_n (pc := 41) dX0_foundOut_41 rfl 0 rfl ?_
  cases h
  exact J_ireturn dX0_foundOut_42 rfl rfl rfl rfl rfl
set_option maxHeartbeats 4000000 in
set_option maxRecDepth 100000 in
theorem k_X0_farthestFound {E : En} (M : Wd) {r : Int32} (h : F_X0_farthestFound M = some r) : Con E mi_X0_farthestFound [.ref 44] M (.inl (some (.int r))) M := by
  unfold F_X0_farthestFound at h
  refine Con.of (by decide) rfl (by decide) (fun κ => ?_)
  show J κ E mi_X0_farthestFound _ 0 0 [(0, .ref 44)] M 0 []
  refine J_aload_n (pc := 0) dX0_farthestFound_0 rfl 0 rfl ?_
  refine J_get (c := 44) (ci := 0) (v := .int (M.1 44 9)) (pc := 1) rfl (by decide) rfl lay_X0 9 (by decide) w_171 rfl rfl dX0_farthestFound_1 ?_
  refine J_iconst (v := (1 : Int32)) (pc := 4) dX0_farthestFound_4 (by decide) ?_
  refine J_isub (pc := 5) dX0_farthestFound_5 ?_
  obtain ⟨v1, e2, h⟩ := bnd_e h
  refine J_topi e2 ?_
  refine J_istore_n (pc := 6) dX0_farthestFound_6 rfl (Nat.le_of_ble_eq_true rfl) [1, 0] rfl ?_
  refine J_iload_n (pc := 7) dX0_farthestFound_7 rfl 1 rfl ?_
  refine J_if_lt (pc := 8) (tgt := 31) dX0_farthestFound_8 (by decide) (fun c3 => ?_) (fun c3 => ?_)
  · replace h := ifp c3 h
    refine J_iconst (v := (0 : Int32)) (pc := 31) dX0_farthestFound_31 (by decide) ?_
    cases h
    exact J_ireturn dX0_farthestFound_32 rfl rfl rfl rfl rfl
  · replace h := ifn c3 h
    refine J_iload_n (pc := 11) dX0_farthestFound_11 rfl 1 rfl ?_
    refine J_sipush (v := (4096 : Int32)) (pc := 12) dX0_farthestFound_12 (by decide) ?_
    refine J_icmp_ge (pc := 15) (tgt := 31) dX0_farthestFound_15 (by decide) (fun c4 => ?_) (fun c4 => ?_)
    · replace h := ifp c4 h
      refine J_iconst (v := (0 : Int32)) (pc := 31) dX0_farthestFound_31 (by decide) ?_
      cases h
      exact J_ireturn dX0_farthestFound_32 rfl rfl rfl rfl rfl
    · replace h := ifn c4 h
      refine J_aload_n (pc := 18) dX0_farthestFound_18 rfl 0 rfl ?_
      refine J_aload_n (pc := 19) dX0_farthestFound_19 rfl 0 rfl ?_
      refine J_get (c := 44) (ci := 0) (v := .ref 48) (pc := 20) rfl (by decide) rfl lay_X0 3 (by decide) w_164 rfl rfl dX0_farthestFound_20 ?_
      refine J_iload_n (pc := 23) dX0_farthestFound_23 rfl 1 rfl ?_
      obtain ⟨v5, e6, hk7, h⟩ := ldi_e h
      refine J_iald (c := 48) (N := 4096) (pc := 24) rfl (by decide) hk7 dX0_farthestFound_24 ?_
      refine J_topi e6 ?_
      obtain ⟨v8, hc9, h⟩ := obind_e h
      refine J_callV (g := mi_X0_costOf) (ci := 0) (pc := 25) [.int v5] [] mv_X0_costOf w_438 (k_X0_costOf v5 _ hc9) rfl (by decide) rfl rfl rfl ⟨⟨Nat.le_of_ble_eq_true rfl, Nat.le_of_ble_eq_true rfl⟩, Nat.le_of_ble_eq_true rfl, Nat.le_of_ble_eq_true rfl⟩ (Nat.le_of_ble_eq_true rfl) dX0_farthestFound_25 (Jk_v rfl rfl fun hok10 => ?_)
      refine J_goto (pc := 28) (tgt := 32) dX0_farthestFound_28 (by decide) ?_
      cases h
      exact J_ireturn dX0_farthestFound_32 rfl rfl rfl rfl rfl
set_option maxHeartbeats 4000000 in
set_option maxRecDepth 100000 in
theorem kL_X0_findNextSlide_L24 {κ : Kx} {E : En} {Q : State → Prop} {k n : Nat} {ρ : Type} {r : ρ} (a1 : Int32) (a2 : Int32) (a3 : Int32) (M : Wd) (K53 : Int32 → Option ρ) (K72 : Option ρ) (hK53 : ∀ (x4 : Int32), K53 x4 = some r → J κ E mi_X0_findNextSlide Q k n [(0, .ref 44), (3, .int a3), (4, .int x4)] M 53 []) (hK72 : K72 = some r → J κ E mi_X0_findNextSlide Q k n [(0, .ref 44), (1, .int a1), (2, .int a2), (3, .int a3)] M 72 []) : ∀ (m : Nat) (x4 : Int32), F_X0_findNextSlide_L24 a1 a2 a3 M K53 K72 m x4 = some r → J κ E mi_X0_findNextSlide Q k n [(0, .ref 44), (1, .int a1), (2, .int a2), (3, .int a3), (4, .int x4)] M 24 [] := by
  intro m
  induction m with
  | zero => intro x4 h; exact (nomatch (show (none : Option ρ) = some r from h))
  | succ m ih =>
    intro x4 h
    unfold F_X0_findNextSlide_L24 at h
    refine J_iload (pc := 24) dX0_findNextSlide_24 4 rfl ?_
    refine J_iconst (v := (3 : Int32)) (pc := 26) dX0_findNextSlide_26 (by decide) ?_
    refine J_icmp_gt (pc := 27) (tgt := 72) dX0_findNextSlide_27 (by decide) (fun c6 => ?_) (fun c6 => ?_)
    · replace h := ifp c6 h
      refine J_sub [0, 1, 2, 3] rfl ?_
      exact hK72 h
    · replace h := ifn c6 h
      refine J_iload (pc := 30) dX0_findNextSlide_30 4 rfl ?_
      refine J_if_eq (pc := 32) (tgt := 66) dX0_findNextSlide_32 (by decide) (fun c7 => ?_) (fun c7 => ?_)
      · replace h := ifp c7 h
        obtain ⟨v8, e9, h⟩ := bnd_e h
        refine J_iinc (v := v8) (pc := 66) dX0_findNextSlide_66 4 rfl (by rw [e9]; rfl) (Nat.le_of_ble_eq_true rfl) [1, 2, 3, 4, 0] rfl ?_
        refine J_goto (pc := 69) (tgt := 24) dX0_findNextSlide_69 (by decide) ?_
        exact ih _ h
      · replace h := ifn c7 h
        refine J_aload_n (pc := 35) dX0_findNextSlide_35 rfl 0 rfl ?_
        refine J_aload_n (pc := 36) dX0_findNextSlide_36 rfl 0 rfl ?_
        refine J_iload_n (pc := 37) dX0_findNextSlide_37 rfl 1 rfl ?_
        refine J_iload_n (pc := 38) dX0_findNextSlide_38 rfl 3 rfl ?_
        refine J_iload (pc := 39) dX0_findNextSlide_39 4 rfl ?_
        obtain ⟨v10, hc11, h⟩ := obind_e h
        refine J_callV (g := mi_X0_behindSlide) (ci := 0) (pc := 41) [.int a1, .int a3, .int x4] [.ref 44] mv_X0_behindSlide w_814 (k_X0_behindSlide a1 a3 x4 _ hc11) rfl (by decide) rfl rfl rfl ⟨⟨Nat.le_of_ble_eq_true rfl, Nat.le_of_ble_eq_true rfl⟩, Nat.le_of_ble_eq_true rfl, Nat.le_of_ble_eq_true rfl⟩ (Nat.le_of_ble_eq_true rfl) dX0_findNextSlide_41 (Jk_v rfl rfl fun hok12 => ?_)
        obtain ⟨v13, hc14, h⟩ := obind_e h
        refine J_callV (g := mi_X0_costOf) (ci := 0) (pc := 44) [.int v10] [] mv_X0_costOf w_438 (k_X0_costOf v10 _ hc14) rfl (by decide) rfl rfl rfl ⟨⟨Nat.le_of_ble_eq_true rfl, Nat.le_of_ble_eq_true rfl⟩, Nat.le_of_ble_eq_true rfl, Nat.le_of_ble_eq_true rfl⟩ (Nat.le_of_ble_eq_true rfl) dX0_findNextSlide_44 (Jk_v rfl rfl fun hok15 => ?_)
        refine J_iload_n (pc := 47) dX0_findNextSlide_47 rfl 2 rfl ?_
        refine J_iconst (v := (1 : Int32)) (pc := 48) dX0_findNextSlide_48 (by decide) ?_
        refine J_isub (pc := 49) dX0_findNextSlide_49 ?_
        refine J_icmp_ne (pc := 50) (tgt := 66) dX0_findNextSlide_50 (by decide) (fun c16 => ?_) (fun c16 => ?_)
        · replace h := ifn c16 h
          obtain ⟨v17, e18, h⟩ := bnd_e h
          refine J_iinc (v := v17) (pc := 66) dX0_findNextSlide_66 4 rfl (by rw [e18]; rfl) (Nat.le_of_ble_eq_true rfl) [1, 2, 3, 4, 0] rfl ?_
          refine J_goto (pc := 69) (tgt := 24) dX0_findNextSlide_69 (by decide) ?_
          exact ih _ h
        · replace h := ifp c16 h
          refine J_sub [0, 3, 4] rfl ?_
          exact hK53 _ h
set_option maxHeartbeats 4000000 in
set_option maxRecDepth 100000 in
theorem kL_X0_findNextSlide_L8 {κ : Kx} {E : En} {Q : State → Prop} {k n : Nat} {ρ : Type} {r : ρ} (a1 : Int32) (a2 : Int32) (M : Wd) (K53 : Int32 → Int32 → Option ρ) (K78 : Option ρ) (hK53 : ∀ (x3 : Int32) (x4 : Int32), K53 x3 x4 = some r → J κ E mi_X0_findNextSlide Q k n [(0, .ref 44), (3, .int x3), (4, .int x4)] M 53 []) (hK78 : K78 = some r → J κ E mi_X0_findNextSlide Q k n [] M 78 []) : ∀ (m : Nat) (x3 : Int32), F_X0_findNextSlide_L8 a1 a2 M K53 K78 m x3 = some r → J κ E mi_X0_findNextSlide Q k n [(0, .ref 44), (1, .int a1), (2, .int a2), (3, .int x3)] M 8 [] := by
  intro m
  induction m with
  | zero => intro x3 h; exact (nomatch (show (none : Option ρ) = some r from h))
  | succ m ih =>
    intro x3 h
    unfold F_X0_findNextSlide_L8 at h
    refine J_iload_n (pc := 8) dX0_findNextSlide_8 rfl 3 rfl ?_
    refine J_aload_n (pc := 9) dX0_findNextSlide_9 rfl 0 rfl ?_
    refine J_get (c := 44) (ci := 0) (v := .int (M.1 44 6)) (pc := 10) rfl (by decide) rfl lay_X0 6 (by decide) w_167 rfl rfl dX0_findNextSlide_10 ?_
    refine J_icmp_ge (pc := 13) (tgt := 78) dX0_findNextSlide_13 (by decide) (fun c4 => ?_) (fun c4 => ?_)
    · replace h := ifp c4 h
      refine J_sub [] rfl ?_
      exact hK78 h
    · replace h := ifn c4 h
      refine J_iload_n (pc := 16) dX0_findNextSlide_16 rfl 2 rfl ?_
      refine J_if_le (pc := 17) (tgt := 78) dX0_findNextSlide_17 (by decide) (fun c5 => ?_) (fun c5 => ?_)
      · replace h := ifp c5 h
        refine J_sub [] rfl ?_
        exact hK78 h
      · replace h := ifn c5 h
        refine J_bipush (v := (-3 : Int32)) (pc := 20) dX0_findNextSlide_20 (by decide) ?_
        refine J_istore (pc := 22) dX0_findNextSlide_22 (Nat.le_of_ble_eq_true rfl) [1, 2, 3, 4, 0] rfl ?_
        refine kL_X0_findNextSlide_L24 _ _ _ _ _ _ (fun v19 h => ?_) (fun h => ?_) fuelN _ h
        · exact hK53 _ _ h
        · obtain ⟨v20, e21, h⟩ := bnd_e h
          refine J_iinc (v := v20) (pc := 72) dX0_findNextSlide_72 3 rfl (by rw [e21]; rfl) (Nat.le_of_ble_eq_true rfl) [1, 2, 3, 0] rfl ?_
          refine J_goto (pc := 75) (tgt := 8) dX0_findNextSlide_75 (by decide) ?_
          exact ih _ h
set_option maxHeartbeats 4000000 in
set_option maxRecDepth 100000 in
theorem k_X0_findNextSlide {E : En} (a1 : Int32) (M : Wd) {r : Int32} {M' : Wd} (h : F_X0_findNextSlide a1 M = some (r, M')) : Con E mi_X0_findNextSlide [.ref 44, .int a1] M (.inl (some (.int r))) M' := by
  unfold F_X0_findNextSlide at h
  refine Con.of (by decide) rfl (by decide) (fun κ => ?_)
  show J κ E mi_X0_findNextSlide _ 0 0 [(0, .ref 44), (1, .int a1)] M 0 []
  refine J_aload_n (pc := 0) dX0_findNextSlide_0 rfl 0 rfl ?_
  refine J_iload_n (pc := 1) dX0_findNextSlide_1 rfl 1 rfl ?_
  obtain ⟨v1, hc2, h⟩ := obind_e h
  refine J_callV (g := mi_X0_costOf) (ci := 0) (pc := 2) [.int a1] [] mv_X0_costOf w_438 (k_X0_costOf a1 _ hc2) rfl (by decide) rfl rfl rfl ⟨⟨Nat.le_of_ble_eq_true rfl, Nat.le_of_ble_eq_true rfl⟩, Nat.le_of_ble_eq_true rfl, Nat.le_of_ble_eq_true rfl⟩ (Nat.le_of_ble_eq_true rfl) dX0_findNextSlide_2 (Jk_v rfl rfl fun hok3 => ?_)
  refine J_istore_n (pc := 5) dX0_findNextSlide_5 rfl (Nat.le_of_ble_eq_true rfl) [1, 2, 0] rfl ?_
  refine J_iconst (v := (0 : Int32)) (pc := 6) dX0_findNextSlide_6 (by decide) ?_
  refine J_istore_n (pc := 7) dX0_findNextSlide_7 rfl (Nat.le_of_ble_eq_true rfl) [1, 2, 3, 0] rfl ?_
  refine kL_X0_findNextSlide_L8 _ _ _ _ _ (fun v22 v23 h => ?_) (fun h => ?_) fuelN _ h
  · refine J_aload_n (pc := 53) dX0_findNextSlide_53 rfl 0 rfl ?_
    refine J_iload_n (pc := 54) dX0_findNextSlide_54 rfl 1 rfl ?_
    refine J_put (c := 44) (ci := 0) (M' := (upI M 44 10 v22)) (pc := 55) rfl (by decide) rfl lay_X0 tyX0 tyX0_ok nmX0 10 (by decide) w_173 rfl rfl rfl rfl (Nat.le_of_ble_eq_true rfl) rfl jc_ne_I dX0_findNextSlide_55 ?_
    refine J_aload_n (pc := 58) dX0_findNextSlide_58 rfl 0 rfl ?_
    refine J_iload (pc := 59) dX0_findNextSlide_59 2 rfl ?_
    refine J_put (c := 44) (ci := 0) (M' := (upI (upI M 44 10 v22) 44 11 v23)) (pc := 61) rfl (by decide) rfl lay_X0 tyX0 tyX0_ok nmX0 11 (by decide) w_175 rfl rfl rfl rfl (Nat.le_of_ble_eq_true rfl) rfl jc_ne_I dX0_findNextSlide_61 ?_
    refine J_iconst (v := (1 : Int32)) (pc := 64) dX0_findNextSlide_64 (by decide) ?_
    cases h
    exact J_zreturn dX0_findNextSlide_65 rfl (Or.inr rfl) rfl rfl rfl rfl
  · refine J_iconst (v := (0 : Int32)) (pc := 78) dX0_findNextSlide_78 (by decide) ?_
    cases h
    exact J_zreturn dX0_findNextSlide_79 rfl (Or.inl rfl) rfl rfl rfl rfl
set_option maxHeartbeats 4000000 in
set_option maxRecDepth 100000 in
theorem k_X0_isCheaper {E : En} (a1 : Int32) (a2 : Int32) (M : Wd) {r : Int32} (h : F_X0_isCheaper a1 a2 M = some r) : Con E mi_X0_isCheaper [.ref 44, .int a1, .int a2] M (.inl (some (.int r))) M := by
  unfold F_X0_isCheaper at h
  refine Con.of (by decide) rfl (by decide) (fun κ => ?_)
  show J κ E mi_X0_isCheaper _ 0 0 [(0, .ref 44), (1, .int a1), (2, .int a2)] M 0 []
  refine J_aload_n (pc := 0) dX0_isCheaper_0 rfl 0 rfl ?_
  refine J_iload_n (pc := 1) dX0_isCheaper_1 rfl 1 rfl ?_
  obtain ⟨v1, hc2, h⟩ := obind_e h
  refine J_callV (g := mi_X0_exists) (ci := 0) (pc := 2) [.int a1] [] mv_X0_exists w_442 (k_X0_exists a1 _ hc2) rfl (by decide) rfl rfl rfl ⟨⟨Nat.le_of_ble_eq_true rfl, Nat.le_of_ble_eq_true rfl⟩, Nat.le_of_ble_eq_true rfl, Nat.le_of_ble_eq_true rfl⟩ (Nat.le_of_ble_eq_true rfl) dX0_isCheaper_2 (Jk_v rfl rfl fun hok3 => ?_)
  refine J_if_eq (pc := 5) (tgt := 32) dX0_isCheaper_5 (by decide) (fun c4 => ?_) (fun c4 => ?_)
  · replace h := ifp c4 h
    refine J_iconst (v := (0 : Int32)) (pc := 32) dX0_isCheaper_32 (by decide) ?_
    cases h
    exact J_zreturn dX0_isCheaper_33 rfl (Or.inl rfl) rfl rfl rfl rfl
  · replace h := ifn c4 h
    refine J_aload_n (pc := 8) dX0_isCheaper_8 rfl 0 rfl ?_
    refine J_get (c := 44) (ci := 0) (v := .ref 47) (pc := 9) rfl (by decide) rfl lay_X0 2 (by decide) w_163 rfl rfl dX0_isCheaper_9 ?_
    refine J_iload_n (pc := 12) dX0_isCheaper_12 rfl 1 rfl ?_
    obtain ⟨v5, e6, hk7, h⟩ := ldi_e h
    refine J_iald (c := 47) (N := 4096) (pc := 13) rfl (by decide) hk7 dX0_isCheaper_13 ?_
    refine J_topi e6 ?_
    refine J_iconst (v := (-1 : Int32)) (pc := 14) dX0_isCheaper_14 (by decide) ?_
    refine J_icmp_eq (pc := 15) (tgt := 28) dX0_isCheaper_15 (by decide) (fun c8 => ?_) (fun c8 => ?_)
    · replace h := ifp c8 h
      refine J_iconst (v := (1 : Int32)) (pc := 28) dX0_isCheaper_28 (by decide) ?_
      refine J_goto (pc := 29) (tgt := 33) dX0_isCheaper_29 (by decide) ?_
      cases h
      exact J_zreturn dX0_isCheaper_33 rfl (Or.inr rfl) rfl rfl rfl rfl
    · replace h := ifn c8 h
      refine J_iload_n (pc := 18) dX0_isCheaper_18 rfl 2 rfl ?_
      refine J_aload_n (pc := 19) dX0_isCheaper_19 rfl 0 rfl ?_
      refine J_get (c := 44) (ci := 0) (v := .ref 47) (pc := 20) rfl (by decide) rfl lay_X0 2 (by decide) w_163 rfl rfl dX0_isCheaper_20 ?_
      refine J_iload_n (pc := 23) dX0_isCheaper_23 rfl 1 rfl ?_
      obtain ⟨v9, e10, hk11, h⟩ := ldi_e h
      refine J_iald (c := 47) (N := 4096) (pc := 24) rfl (by decide) hk11 dX0_isCheaper_24 ?_
      refine J_topi e10 ?_
      refine J_icmp_ge (pc := 25) (tgt := 32) dX0_isCheaper_25 (by decide) (fun c12 => ?_) (fun c12 => ?_)
      · replace h := ifp c12 h
        refine J_iconst (v := (0 : Int32)) (pc := 32) dX0_isCheaper_32 (by decide) ?_
        cases h
        exact J_zreturn dX0_isCheaper_33 rfl (Or.inl rfl) rfl rfl rfl rfl
      · replace h := ifn c12 h
        refine J_iconst (v := (1 : Int32)) (pc := 28) dX0_isCheaper_28 (by decide) ?_
        refine J_goto (pc := 29) (tgt := 33) dX0_isCheaper_29 (by decide) ?_
        cases h
        exact J_zreturn dX0_isCheaper_33 rfl (Or.inr rfl) rfl rfl rfl rfl
set_option maxHeartbeats 4000000 in
set_option maxRecDepth 100000 in
theorem k_X0_cheapen {E : En} (a1 : Int32) (a2 : Int32) (M : Wd) {M' : Wd} (h : F_X0_cheapen a1 a2 M = some M') : Con E mi_X0_cheapen [.ref 44, .int a1, .int a2] M (.inl none) M' := by
  unfold F_X0_cheapen at h
  refine Con.of (by decide) rfl (by decide) (fun κ => ?_)
  show J κ E mi_X0_cheapen _ 0 0 [(0, .ref 44), (1, .int a1), (2, .int a2)] M 0 []
  refine J_iload_n (pc := 0) dX0_cheapen_0 rfl 2 rfl ?_
  refine J_iconst (v := (3 : Int32)) (pc := 1) dX0_cheapen_1 (by decide) ?_
  refine J_iand (pc := 2) dX0_cheapen_2 ?_
  obtain ⟨v1, e2, h⟩ := bnd_e h
  refine J_topi e2 ?_
  refine J_istore_n (pc := 3) dX0_cheapen_3 rfl (Nat.le_of_ble_eq_true rfl) [1, 2, 3, 0] rfl ?_
  refine J_aload_n (pc := 4) dX0_cheapen_4 rfl 0 rfl ?_
  refine J_iload_n (pc := 5) dX0_cheapen_5 rfl 1 rfl ?_
  refine J_iload_n (pc := 6) dX0_cheapen_6 rfl 2 rfl ?_
  obtain ⟨v3, hc4, h⟩ := obind_e h
  refine J_callV (g := mi_X0_isCheaper) (ci := 0) (pc := 7) [.int a1, .int a2] [] mv_X0_isCheaper w_490 (k_X0_isCheaper a1 a2 _ hc4) rfl (by decide) rfl rfl rfl ⟨⟨Nat.le_of_ble_eq_true rfl, Nat.le_of_ble_eq_true rfl⟩, Nat.le_of_ble_eq_true rfl, Nat.le_of_ble_eq_true rfl⟩ (Nat.le_of_ble_eq_true rfl) dX0_cheapen_7 (Jk_v rfl rfl fun hok5 => ?_)
  refine J_if_eq (pc := 10) (tgt := 60) dX0_cheapen_10 (by decide) (fun c6 => ?_) (fun c6 => ?_)
  · replace h := ifp c6 h
    cases h
    exact J_return dX0_cheapen_60 rfl rfl rfl rfl rfl
  · replace h := ifn c6 h
    refine J_aload_n (pc := 13) dX0_cheapen_13 rfl 0 rfl ?_
    refine J_get (c := 44) (ci := 0) (v := .ref 50) (pc := 14) rfl (by decide) rfl lay_X0 5 (by decide) w_166 rfl rfl dX0_cheapen_14 ?_
    refine J_iload_n (pc := 17) dX0_cheapen_17 rfl 3 rfl ?_
    obtain ⟨v7, e8, hk9, h⟩ := ldi_e h
    refine J_iald (c := 50) (N := 4) (pc := 18) rfl (by decide) hk9 dX0_cheapen_18 ?_
    refine J_topi e8 ?_
    refine J_sipush (v := (4096 : Int32)) (pc := 19) dX0_cheapen_19 (by decide) ?_
    refine J_icmp_ge (pc := 22) (tgt := 60) dX0_cheapen_22 (by decide) (fun c10 => ?_) (fun c10 => ?_)
    · replace h := ifp c10 h
      cases h
      exact J_return dX0_cheapen_60 rfl rfl rfl rfl rfl
    · replace h := ifn c10 h
      refine J_aload_n (pc := 25) dX0_cheapen_25 rfl 0 rfl ?_
      refine J_get (c := 44) (ci := 0) (v := .ref 47) (pc := 26) rfl (by decide) rfl lay_X0 2 (by decide) w_163 rfl rfl dX0_cheapen_26 ?_
      refine J_iload_n (pc := 29) dX0_cheapen_29 rfl 1 rfl ?_
      refine J_iload_n (pc := 30) dX0_cheapen_30 rfl 2 rfl ?_
      obtain ⟨hk11, h⟩ := inb_e h
      refine J_iast (c := 47) (N := 4096) (pc := 31) (fun _ => rfl) (by decide) hk11 dX0_cheapen_31 ?_
      refine J_aload_n (pc := 32) dX0_cheapen_32 rfl 0 rfl ?_
      refine J_get (c := 44) (ci := 0) (v := .ref 49) (pc := 33) rfl (by decide) rfl lay_X0 4 (by decide) w_165 rfl rfl dX0_cheapen_33 ?_
      refine J_iload_n (pc := 36) dX0_cheapen_36 rfl 3 rfl ?_
      refine J_sipush (v := (4096 : Int32)) (pc := 37) dX0_cheapen_37 (by decide) ?_
      refine J_imul (pc := 40) dX0_cheapen_40 ?_
      refine J_aload_n (pc := 41) dX0_cheapen_41 rfl 0 rfl ?_
      refine J_get (c := 44) (ci := 0) (v := .ref 50) (pc := 42) rfl (by decide) rfl lay_X0 5 (by decide) w_166 rfl rfl dX0_cheapen_42 ?_
      refine J_iload_n (pc := 45) dX0_cheapen_45 rfl 3 rfl ?_
      obtain ⟨v12, e13, hk14, h⟩ := ldi_e h
      refine J_iald (c := 50) (N := 4) (pc := 46) rfl (by decide) hk14 dX0_cheapen_46 ?_
      refine J_topi e13 ?_
      refine J_iadd (pc := 47) dX0_cheapen_47 ?_
      refine J_iload_n (pc := 48) dX0_cheapen_48 rfl 1 rfl ?_
      obtain ⟨hk15, h⟩ := inb_e h
      refine J_iast (c := 49) (N := 16384) (pc := 49) (fun _ => rfl) (by decide) hk15 dX0_cheapen_49 ?_
      refine J_aload_n (pc := 50) dX0_cheapen_50 rfl 0 rfl ?_
      refine J_get (c := 44) (ci := 0) (v := .ref 50) (pc := 51) rfl (by decide) rfl lay_X0 5 (by decide) w_166 rfl rfl dX0_cheapen_51 ?_
      refine J_iload_n (pc := 54) dX0_cheapen_54 rfl 3 rfl ?_
      refine J_dup2 (pc := 55) dX0_cheapen_55 rfl rfl ?_
      obtain ⟨v16, e17, hk18, h⟩ := ldi_e h
      refine J_iald (c := 50) (N := 4) (pc := 56) rfl (by decide) hk18 dX0_cheapen_56 ?_
      refine J_topi e17 ?_
      refine J_iconst (v := (1 : Int32)) (pc := 57) dX0_cheapen_57 (by decide) ?_
      refine J_iadd (pc := 58) dX0_cheapen_58 ?_
      obtain ⟨hk19, h⟩ := inb_e h
      refine J_iast (c := 50) (N := 4) (pc := 59) (fun _ => rfl) (by decide) hk19 dX0_cheapen_59 ?_
      cases h
      exact J_return dX0_cheapen_60 rfl rfl rfl rfl rfl
set_option maxHeartbeats 4000000 in
set_option maxRecDepth 100000 in
theorem k_X0_inBucket {E : En} (a1 : Int32) (a2 : Int32) (M : Wd) {r : Int32} (h : F_X0_inBucket a1 a2 M = some r) : Con E mi_X0_inBucket [.ref 44, .int a1, .int a2] M (.inl (some (.int r))) M := by
  unfold F_X0_inBucket at h
  refine Con.of (by decide) rfl (by decide) (fun κ => ?_)
  show J κ E mi_X0_inBucket _ 0 0 [(0, .ref 44), (1, .int a1), (2, .int a2)] M 0 []
  refine J_iload_n (pc := 0) dX0_inBucket_0 rfl 1 rfl ?_
  refine J_iconst (v := (3 : Int32)) (pc := 1) dX0_inBucket_1 (by decide) ?_
  refine J_iand (pc := 2) dX0_inBucket_2 ?_
  refine J_sipush (v := (4096 : Int32)) (pc := 3) dX0_inBucket_3 (by decide) ?_
  refine J_imul (pc := 6) dX0_inBucket_6 ?_
  refine J_iload_n (pc := 7) dX0_inBucket_7 rfl 2 rfl ?_
  refine J_iadd (pc := 8) dX0_inBucket_8 ?_
  obtain ⟨v1, e2, h⟩ := bnd_e h
  refine J_topi e2 ?_
  refine J_istore_n (pc := 9) dX0_inBucket_9 rfl (Nat.le_of_ble_eq_true rfl) [1, 2, 3, 0] rfl ?_
  refine J_iload_n (pc := 10) dX0_inBucket_10 rfl 3 rfl ?_
  obtain ⟨v3, hv9, h⟩ := obind_e h
  refine J_join [(0, .ref 44), (1, .int a1)] M 31 [.int v3] ?_ (fun hJ => ?_)
  · refine J_istore (pc := 31) dX0_inBucket_31 (Nat.le_of_ble_eq_true rfl) [1, 2, 0] rfl ?_
    refine J_aload_n (pc := 33) dX0_inBucket_33 rfl 0 rfl ?_
    refine J_iload (pc := 34) dX0_inBucket_34 2 rfl ?_
    obtain ⟨v10, hc11, h⟩ := obind_e h
    refine J_callV (g := mi_X0_costOf) (ci := 0) (pc := 36) [.int v3] [] mv_X0_costOf w_438 (k_X0_costOf v3 _ hc11) rfl (by decide) rfl rfl rfl ⟨⟨Nat.le_of_ble_eq_true rfl, Nat.le_of_ble_eq_true rfl⟩, Nat.le_of_ble_eq_true rfl, Nat.le_of_ble_eq_true rfl⟩ (Nat.le_of_ble_eq_true rfl) dX0_inBucket_36 (Jk_v rfl rfl fun hok12 => ?_)
    refine J_iload_n (pc := 39) dX0_inBucket_39 rfl 1 rfl ?_
    refine J_icmp_ne (pc := 40) (tgt := 48) dX0_inBucket_40 (by decide) (fun c13 => ?_) (fun c13 => ?_)
    · replace h := ifn c13 h
      refine J_iconst (v := (-1 : Int32)) (pc := 48) dX0_inBucket_48 (by decide) ?_
      cases h
      exact J_ireturn dX0_inBucket_49 rfl rfl rfl rfl rfl
    · replace h := ifp c13 h
      refine J_iload (pc := 43) dX0_inBucket_43 2 rfl ?_
      refine J_goto (pc := 45) (tgt := 49) dX0_inBucket_45 (by decide) ?_
      cases h
      exact J_ireturn dX0_inBucket_49 rfl rfl rfl rfl rfl
  · replace h := hv9
    refine J_if_lt (pc := 11) (tgt := 30) dX0_inBucket_11 (by decide) (fun c4 => ?_) (fun c4 => ?_)
    · replace h := ifp c4 h
      refine J_iconst (v := (-1 : Int32)) (pc := 30) dX0_inBucket_30 (by decide) ?_
      cases h
      refine J_sub [0, 1] rfl ?_
      exact hJ
    · replace h := ifn c4 h
      refine J_iload_n (pc := 14) dX0_inBucket_14 rfl 3 rfl ?_
      refine J_sipush (v := (16384 : Int32)) (pc := 15) dX0_inBucket_15 (by decide) ?_
      refine J_icmp_ge (pc := 18) (tgt := 30) dX0_inBucket_18 (by decide) (fun c5 => ?_) (fun c5 => ?_)
      · replace h := ifp c5 h
        refine J_iconst (v := (-1 : Int32)) (pc := 30) dX0_inBucket_30 (by decide) ?_
        cases h
        refine J_sub [0, 1] rfl ?_
        exact hJ
      · replace h := ifn c5 h
        refine J_aload_n (pc := 21) dX0_inBucket_21 rfl 0 rfl ?_
        refine J_get (c := 44) (ci := 0) (v := .ref 49) (pc := 22) rfl (by decide) rfl lay_X0 4 (by decide) w_165 rfl rfl dX0_inBucket_22 ?_
        refine J_iload_n (pc := 25) dX0_inBucket_25 rfl 3 rfl ?_
        obtain ⟨v6, e7, hk8, h⟩ := ldi_e h
        refine J_iald (c := 49) (N := 16384) (pc := 26) rfl (by decide) hk8 dX0_inBucket_26 ?_
        refine J_topi e7 ?_
        refine J_goto (pc := 27) (tgt := 31) dX0_inBucket_27 (by decide) ?_
        cases h
        refine J_sub [0, 1] rfl ?_
        exact hJ
set_option maxHeartbeats 4000000 in
set_option maxRecDepth 100000 in
theorem kL_X0_emptyBucket_L27 {κ : Kx} {E : En} {Q : State → Prop} {k n : Nat} {ρ : Type} {r : ρ} (a1 : Int32) (a2 : Int32) (a3 : Int32) (a4 : Int32) (K99 : Wd → Option ρ) (hK99 : ∀ (M : Wd), K99 M = some r → J κ E mi_X0_emptyBucket Q k n [(0, .ref 44), (1, .int a1), (2, .int a2), (3, .int a3)] M 99 []) : ∀ (m : Nat) (x5 : Int32) (M : Wd), F_X0_emptyBucket_L27 a1 a2 a3 a4 K99 m x5 M = some r → J κ E mi_X0_emptyBucket Q k n [(0, .ref 44), (1, .int a1), (2, .int a2), (3, .int a3), (4, .int a4), (5, .int x5)] M 27 [] := by
  intro m
  induction m with
  | zero => intro x5 M h; exact (nomatch (show (none : Option ρ) = some r from h))
  | succ m ih =>
    intro x5 M h
    unfold F_X0_emptyBucket_L27 at h
    refine J_iload (pc := 27) dX0_emptyBucket_27 5 rfl ?_
    refine J_aload_n (pc := 29) dX0_emptyBucket_29 rfl 0 rfl ?_
    refine J_get (c := 44) (ci := 0) (v := .int (M.1 44 6)) (pc := 30) rfl (by decide) rfl lay_X0 6 (by decide) w_167 rfl rfl dX0_emptyBucket_30 ?_
    refine J_icmp_ge (pc := 33) (tgt := 99) dX0_emptyBucket_33 (by decide) (fun c8 => ?_) (fun c8 => ?_)
    · replace h := ifp c8 h
      refine J_sub [0, 1, 2, 3] rfl ?_
      exact hK99 _ h
    · replace h := ifn c8 h
      refine J_iload (pc := 36) dX0_emptyBucket_36 5 rfl ?_
      refine J_bipush (v := (6 : Int32)) (pc := 38) dX0_emptyBucket_38 (by decide) ?_
      refine J_icmp_ge (pc := 40) (tgt := 99) dX0_emptyBucket_40 (by decide) (fun c9 => ?_) (fun c9 => ?_)
      · replace h := ifp c9 h
        refine J_sub [0, 1, 2, 3] rfl ?_
        exact hK99 _ h
      · replace h := ifn c9 h
        refine J_iload (pc := 43) dX0_emptyBucket_43 4 rfl ?_
        refine J_iconst (v := (-1 : Int32)) (pc := 45) dX0_emptyBucket_45 (by decide) ?_
        refine J_icmp_eq (pc := 46) (tgt := 99) dX0_emptyBucket_46 (by decide) (fun c10 => ?_) (fun c10 => ?_)
        · replace h := ifp c10 h
          refine J_sub [0, 1, 2, 3] rfl ?_
          exact hK99 _ h
        · replace h := ifn c10 h
          refine J_aload_n (pc := 49) dX0_emptyBucket_49 rfl 0 rfl ?_
          refine J_aload_n (pc := 50) dX0_emptyBucket_50 rfl 0 rfl ?_
          refine J_iload (pc := 51) dX0_emptyBucket_51 4 rfl ?_
          refine J_iload (pc := 53) dX0_emptyBucket_53 5 rfl ?_
          refine J_iconst (v := (1 : Int32)) (pc := 55) dX0_emptyBucket_55 (by decide) ?_
          obtain ⟨v11, hc12, h⟩ := obind_e h
          refine J_callV (g := mi_X0_behindStep) (ci := 0) (pc := 56) [.int a4, .int x5, .int (1 : Int32)] [.ref 44] mv_X0_behindStep w_450 (k_X0_behindStep a4 x5 (1 : Int32) _ hc12) rfl (by decide) rfl rfl rfl ⟨⟨Nat.le_of_ble_eq_true rfl, Nat.le_of_ble_eq_true rfl⟩, Nat.le_of_ble_eq_true rfl, Nat.le_of_ble_eq_true rfl⟩ (Nat.le_of_ble_eq_true rfl) dX0_emptyBucket_56 (Jk_v rfl rfl fun hok13 => ?_)
          refine J_iload_n (pc := 59) dX0_emptyBucket_59 rfl 1 rfl ?_
          refine J_aload_n (pc := 60) dX0_emptyBucket_60 rfl 0 rfl ?_
          refine J_get (c := 44) (ci := 0) (v := .ref 45) (pc := 61) rfl (by decide) rfl lay_X0 0 (by decide) w_161 rfl rfl dX0_emptyBucket_61 ?_
          refine J_iload (pc := 64) dX0_emptyBucket_64 5 rfl ?_
          obtain ⟨v14, e15, hk16, h⟩ := ldi_e h
          refine J_iald (c := 45) (N := 6) (pc := 66) rfl (by decide) hk16 dX0_emptyBucket_66 ?_
          refine J_topi e15 ?_
          refine J_iadd (pc := 67) dX0_emptyBucket_67 ?_
          obtain ⟨M17, hc18, h⟩ := obind_e h
          refine J_callV (g := mi_X0_cheapen) (ci := 0) (pc := 68) [.int v11, .int (a1 + v14)] [] mv_X0_cheapen w_486 (k_X0_cheapen v11 (a1 + v14) _ hc18) rfl (by decide) rfl rfl rfl ⟨⟨Nat.le_of_ble_eq_true rfl, Nat.le_of_ble_eq_true rfl⟩, Nat.le_of_ble_eq_true rfl, Nat.le_of_ble_eq_true rfl⟩ (Nat.le_of_ble_eq_true rfl) dX0_emptyBucket_68 (Jk_0 rfl rfl ?_)
          refine J_aload_n (pc := 71) dX0_emptyBucket_71 rfl 0 rfl ?_
          refine J_aload_n (pc := 72) dX0_emptyBucket_72 rfl 0 rfl ?_
          refine J_iload (pc := 73) dX0_emptyBucket_73 4 rfl ?_
          refine J_iload (pc := 75) dX0_emptyBucket_75 5 rfl ?_
          refine J_iconst (v := (-1 : Int32)) (pc := 77) dX0_emptyBucket_77 (by decide) ?_
          obtain ⟨v19, hc20, h⟩ := obind_e h
          refine J_callV (g := mi_X0_behindStep) (ci := 0) (pc := 78) [.int a4, .int x5, .int (-1 : Int32)] [.ref 44] mv_X0_behindStep w_450 (k_X0_behindStep a4 x5 (-1 : Int32) _ hc20) rfl (by decide) rfl rfl rfl ⟨⟨Nat.le_of_ble_eq_true rfl, Nat.le_of_ble_eq_true rfl⟩, Nat.le_of_ble_eq_true rfl, Nat.le_of_ble_eq_true rfl⟩ (Nat.le_of_ble_eq_true rfl) dX0_emptyBucket_78 (Jk_v rfl rfl fun hok21 => ?_)
          refine J_iload_n (pc := 81) dX0_emptyBucket_81 rfl 1 rfl ?_
          refine J_aload_n (pc := 82) dX0_emptyBucket_82 rfl 0 rfl ?_
          refine J_get (c := 44) (ci := 0) (v := .ref 45) (pc := 83) rfl (by decide) rfl lay_X0 0 (by decide) w_161 rfl rfl dX0_emptyBucket_83 ?_
          refine J_iload (pc := 86) dX0_emptyBucket_86 5 rfl ?_
          obtain ⟨v22, e23, hk24, h⟩ := ldi_e h
          refine J_iald (c := 45) (N := 6) (pc := 88) rfl (by decide) hk24 dX0_emptyBucket_88 ?_
          refine J_topi e23 ?_
          refine J_iadd (pc := 89) dX0_emptyBucket_89 ?_
          obtain ⟨M25, hc26, h⟩ := obind_e h
          refine J_callV (g := mi_X0_cheapen) (ci := 0) (pc := 90) [.int v19, .int (a1 + v22)] [] mv_X0_cheapen w_486 (k_X0_cheapen v19 (a1 + v22) _ hc26) rfl (by decide) rfl rfl rfl ⟨⟨Nat.le_of_ble_eq_true rfl, Nat.le_of_ble_eq_true rfl⟩, Nat.le_of_ble_eq_true rfl, Nat.le_of_ble_eq_true rfl⟩ (Nat.le_of_ble_eq_true rfl) dX0_emptyBucket_90 (Jk_0 rfl rfl ?_)
          obtain ⟨v27, e28, h⟩ := bnd_e h
          refine J_iinc (v := v27) (pc := 93) dX0_emptyBucket_93 5 rfl (by rw [e28]; rfl) (Nat.le_of_ble_eq_true rfl) [1, 2, 3, 4, 5, 0] rfl ?_
          refine J_goto (pc := 96) (tgt := 27) dX0_emptyBucket_96 (by decide) ?_
          exact ih _ _ h
set_option maxHeartbeats 4000000 in
set_option maxRecDepth 100000 in
theorem kL_X0_emptyBucket_L11 {κ : Kx} {E : En} {Q : State → Prop} {k n : Nat} {ρ : Type} {r : ρ} (a1 : Int32) (a2 : Int32) (K105 : Wd → Option ρ) (hK105 : ∀ (M : Wd), K105 M = some r → J κ E mi_X0_emptyBucket Q k n [(0, .ref 44), (1, .int a1)] M 105 []) : ∀ (m : Nat) (x3 : Int32) (M : Wd), F_X0_emptyBucket_L11 a1 a2 K105 m x3 M = some r → J κ E mi_X0_emptyBucket Q k n [(0, .ref 44), (1, .int a1), (2, .int a2), (3, .int x3)] M 11 [] := by
  intro m
  induction m with
  | zero => intro x3 M h; exact (nomatch (show (none : Option ρ) = some r from h))
  | succ m ih =>
    intro x3 M h
    unfold F_X0_emptyBucket_L11 at h
    refine J_iload_n (pc := 11) dX0_emptyBucket_11 rfl 3 rfl ?_
    refine J_iload_n (pc := 12) dX0_emptyBucket_12 rfl 2 rfl ?_
    refine J_icmp_ge (pc := 13) (tgt := 105) dX0_emptyBucket_13 (by decide) (fun c4 => ?_) (fun c4 => ?_)
    · replace h := ifp c4 h
      refine J_sub [0, 1] rfl ?_
      exact hK105 _ h
    · replace h := ifn c4 h
      refine J_aload_n (pc := 16) dX0_emptyBucket_16 rfl 0 rfl ?_
      refine J_iload_n (pc := 17) dX0_emptyBucket_17 rfl 1 rfl ?_
      refine J_iload_n (pc := 18) dX0_emptyBucket_18 rfl 3 rfl ?_
      obtain ⟨v5, hc6, h⟩ := obind_e h
      refine J_callV (g := mi_X0_inBucket) (ci := 0) (pc := 19) [.int a1, .int x3] [] mv_X0_inBucket w_502 (k_X0_inBucket a1 x3 _ hc6) rfl (by decide) rfl rfl rfl ⟨⟨Nat.le_of_ble_eq_true rfl, Nat.le_of_ble_eq_true rfl⟩, Nat.le_of_ble_eq_true rfl, Nat.le_of_ble_eq_true rfl⟩ (Nat.le_of_ble_eq_true rfl) dX0_emptyBucket_19 (Jk_v rfl rfl fun hok7 => ?_)
      refine J_istore (pc := 22) dX0_emptyBucket_22 (Nat.le_of_ble_eq_true rfl) [1, 2, 3, 4, 0] rfl ?_
      refine J_iconst (v := (0 : Int32)) (pc := 24) dX0_emptyBucket_24 (by decide) ?_
      refine J_istore (pc := 25) dX0_emptyBucket_25 (Nat.le_of_ble_eq_true rfl) [1, 2, 3, 4, 5, 0] rfl ?_
      refine kL_X0_emptyBucket_L27 _ _ _ _ _ (fun M29 h => ?_) fuelN _ _ h
      obtain ⟨v30, e31, h⟩ := bnd_e h
      refine J_iinc (v := v30) (pc := 99) dX0_emptyBucket_99 3 rfl (by rw [e31]; rfl) (Nat.le_of_ble_eq_true rfl) [1, 2, 3, 0] rfl ?_
      refine J_goto (pc := 102) (tgt := 11) dX0_emptyBucket_102 (by decide) ?_
      exact ih _ _ h
set_option maxHeartbeats 4000000 in
set_option maxRecDepth 100000 in
theorem k_X0_emptyBucket {E : En} (a1 : Int32) (M : Wd) {M' : Wd} (h : F_X0_emptyBucket a1 M = some M') : Con E mi_X0_emptyBucket [.ref 44, .int a1] M (.inl none) M' := by
  unfold F_X0_emptyBucket at h
  refine Con.of (by decide) rfl (by decide) (fun κ => ?_)
  show J κ E mi_X0_emptyBucket _ 0 0 [(0, .ref 44), (1, .int a1)] M 0 []
  refine J_aload_n (pc := 0) dX0_emptyBucket_0 rfl 0 rfl ?_
  refine J_get (c := 44) (ci := 0) (v := .ref 50) (pc := 1) rfl (by decide) rfl lay_X0 5 (by decide) w_166 rfl rfl dX0_emptyBucket_1 ?_
  refine J_iload_n (pc := 4) dX0_emptyBucket_4 rfl 1 rfl ?_
  refine J_iconst (v := (3 : Int32)) (pc := 5) dX0_emptyBucket_5 (by decide) ?_
  refine J_iand (pc := 6) dX0_emptyBucket_6 ?_
  obtain ⟨v1, e2, hk3, h⟩ := ldi_e h
  refine J_iald (c := 50) (N := 4) (pc := 7) rfl (by decide) hk3 dX0_emptyBucket_7 ?_
  refine J_topi e2 ?_
  refine J_istore_n (pc := 8) dX0_emptyBucket_8 rfl (Nat.le_of_ble_eq_true rfl) [1, 2, 0] rfl ?_
  refine J_iconst (v := (0 : Int32)) (pc := 9) dX0_emptyBucket_9 (by decide) ?_
  refine J_istore_n (pc := 10) dX0_emptyBucket_10 rfl (Nat.le_of_ble_eq_true rfl) [1, 2, 3, 0] rfl ?_
  refine kL_X0_emptyBucket_L11 _ _ _ (fun M32 h => ?_) fuelN _ _ h
  refine J_aload_n (pc := 105) dX0_emptyBucket_105 rfl 0 rfl ?_
  refine J_get (c := 44) (ci := 0) (v := .ref 50) (pc := 106) rfl (by decide) rfl lay_X0 5 (by decide) w_166 rfl rfl dX0_emptyBucket_106 ?_
  refine J_iload_n (pc := 109) dX0_emptyBucket_109 rfl 1 rfl ?_
  refine J_iconst (v := (3 : Int32)) (pc := 110) dX0_emptyBucket_110 (by decide) ?_
  refine J_iand (pc := 111) dX0_emptyBucket_111 ?_
  refine J_iconst (v := (0 : Int32)) (pc := 112) dX0_emptyBucket_112 (by decide) ?_
  obtain ⟨hk33, h⟩ := inb_e h
  refine J_iast (c := 50) (N := 4) (pc := 113) (fun _ => rfl) (by decide) hk33 dX0_emptyBucket_113 ?_
  cases h
  exact J_return dX0_emptyBucket_114 rfl rfl rfl rfl rfl
set_option maxHeartbeats 4000000 in
set_option maxRecDepth 100000 in
theorem kL_X0_hasOutFor_L2 {κ : Kx} {E : En} {Q : State → Prop} {k n : Nat} {ρ : Type} {r : ρ} (a1 : Int32) (M : Wd) (K34 : Option ρ) (K42 : Option ρ) (hK34 : K34 = some r → J κ E mi_X0_hasOutFor Q k n [] M 34 []) (hK42 : K42 = some r → J κ E mi_X0_hasOutFor Q k n [] M 42 []) : ∀ (m : Nat) (x2 : Int32), F_X0_hasOutFor_L2 a1 M K34 K42 m x2 = some r → J κ E mi_X0_hasOutFor Q k n [(0, .ref 44), (1, .int a1), (2, .int x2)] M 2 [] := by
  intro m
  induction m with
  | zero => intro x2 h; exact (nomatch (show (none : Option ρ) = some r from h))
  | succ m ih =>
    intro x2 h
    unfold F_X0_hasOutFor_L2 at h
    refine J_iload_n (pc := 2) dX0_hasOutFor_2 rfl 2 rfl ?_
    refine J_aload_n (pc := 3) dX0_hasOutFor_3 rfl 0 rfl ?_
    refine J_get (c := 44) (ci := 0) (v := .ref 50) (pc := 4) rfl (by decide) rfl lay_X0 5 (by decide) w_166 rfl rfl dX0_hasOutFor_4 ?_
    refine J_iload_n (pc := 7) dX0_hasOutFor_7 rfl 1 rfl ?_
    refine J_iconst (v := (3 : Int32)) (pc := 8) dX0_hasOutFor_8 (by decide) ?_
    refine J_iand (pc := 9) dX0_hasOutFor_9 ?_
    obtain ⟨v1, e2, hk3, h⟩ := ldi_e h
    refine J_iald (c := 50) (N := 4) (pc := 10) rfl (by decide) hk3 dX0_hasOutFor_10 ?_
    refine J_topi e2 ?_
    refine J_icmp_ge (pc := 11) (tgt := 42) dX0_hasOutFor_11 (by decide) (fun c4 => ?_) (fun c4 => ?_)
    · replace h := ifp c4 h
      refine J_sub [] rfl ?_
      exact hK42 h
    · replace h := ifn c4 h
      refine J_aload_n (pc := 14) dX0_hasOutFor_14 rfl 0 rfl ?_
      refine J_iload_n (pc := 15) dX0_hasOutFor_15 rfl 1 rfl ?_
      refine J_iload_n (pc := 16) dX0_hasOutFor_16 rfl 2 rfl ?_
      obtain ⟨v5, hc6, h⟩ := obind_e h
      refine J_callV (g := mi_X0_inBucket) (ci := 0) (pc := 17) [.int a1, .int x2] [] mv_X0_inBucket w_502 (k_X0_inBucket a1 x2 _ hc6) rfl (by decide) rfl rfl rfl ⟨⟨Nat.le_of_ble_eq_true rfl, Nat.le_of_ble_eq_true rfl⟩, Nat.le_of_ble_eq_true rfl, Nat.le_of_ble_eq_true rfl⟩ (Nat.le_of_ble_eq_true rfl) dX0_hasOutFor_17 (Jk_v rfl rfl fun hok7 => ?_)
      refine J_istore_n (pc := 20) dX0_hasOutFor_20 rfl (Nat.le_of_ble_eq_true rfl) [1, 2, 3, 0] rfl ?_
      refine J_iload_n (pc := 21) dX0_hasOutFor_21 rfl 3 rfl ?_
      refine J_iconst (v := (-1 : Int32)) (pc := 22) dX0_hasOutFor_22 (by decide) ?_
      refine J_icmp_eq (pc := 23) (tgt := 36) dX0_hasOutFor_23 (by decide) (fun c8 => ?_) (fun c8 => ?_)
      · replace h := ifp c8 h
        obtain ⟨v9, e10, h⟩ := bnd_e h
        refine J_iinc (v := v9) (pc := 36) dX0_hasOutFor_36 2 rfl (by rw [e10]; rfl) (Nat.le_of_ble_eq_true rfl) [1, 2, 0, 3] rfl ?_
        refine J_goto (pc := 39) (tgt := 2) dX0_hasOutFor_39 (by decide) ?_
        refine J_sub [0, 1, 2] rfl ?_
        exact ih _ h
      · replace h := ifn c8 h
        refine J_aload_n (pc := 26) dX0_hasOutFor_26 rfl 0 rfl ?_
        refine J_iload_n (pc := 27) dX0_hasOutFor_27 rfl 3 rfl ?_
        refine J_callV (g := mi_X0_isOutIn) (ci := 0) (pc := 28) [.int v5] [] mv_X0_isOutIn w_458 (k_X0_isOutIn v5 _) rfl (by decide) rfl rfl rfl ⟨⟨Nat.le_of_ble_eq_true rfl, Nat.le_of_ble_eq_true rfl⟩, Nat.le_of_ble_eq_true rfl, Nat.le_of_ble_eq_true rfl⟩ (Nat.le_of_ble_eq_true rfl) dX0_hasOutFor_28 (Jk_v rfl rfl fun hok11 => ?_)
        refine J_if_eq (pc := 31) (tgt := 36) dX0_hasOutFor_31 (by decide) (fun c12 => ?_) (fun c12 => ?_)
        · replace h := ifp c12 h
          obtain ⟨v13, e14, h⟩ := bnd_e h
          refine J_iinc (v := v13) (pc := 36) dX0_hasOutFor_36 2 rfl (by rw [e14]; rfl) (Nat.le_of_ble_eq_true rfl) [1, 2, 0, 3] rfl ?_
          refine J_goto (pc := 39) (tgt := 2) dX0_hasOutFor_39 (by decide) ?_
          refine J_sub [0, 1, 2] rfl ?_
          exact ih _ h
        · replace h := ifn c12 h
          refine J_sub [] rfl ?_
          exact hK34 h
set_option maxHeartbeats 4000000 in
set_option maxRecDepth 100000 in
theorem k_X0_hasOutFor {E : En} (a1 : Int32) (M : Wd) {r : Int32} (h : F_X0_hasOutFor a1 M = some r) : Con E mi_X0_hasOutFor [.ref 44, .int a1] M (.inl (some (.int r))) M := by
  unfold F_X0_hasOutFor at h
  refine Con.of (by decide) rfl (by decide) (fun κ => ?_)
  show J κ E mi_X0_hasOutFor _ 0 0 [(0, .ref 44), (1, .int a1)] M 0 []
  refine J_iconst (v := (0 : Int32)) (pc := 0) dX0_hasOutFor_0 (by decide) ?_
  refine J_istore_n (pc := 1) dX0_hasOutFor_1 rfl (Nat.le_of_ble_eq_true rfl) [1, 2, 0] rfl ?_
  refine kL_X0_hasOutFor_L2 _ _ _ _ (fun h => ?_) (fun h => ?_) fuelN _ h
  · refine J_iconst (v := (1 : Int32)) (pc := 34) dX0_hasOutFor_34 (by decide) ?_
    cases h
    exact J_zreturn dX0_hasOutFor_35 rfl (Or.inr rfl) rfl rfl rfl rfl
  · refine J_iconst (v := (0 : Int32)) (pc := 42) dX0_hasOutFor_42 (by decide) ?_
    cases h
    exact J_zreturn dX0_hasOutFor_43 rfl (Or.inl rfl) rfl rfl rfl rfl
set_option maxHeartbeats 4000000 in
set_option maxRecDepth 100000 in
theorem k_X0_isAnyFilled {E : En} (M : Wd) : Con E mi_X0_isAnyFilled [.ref 44] M (.inl (some (.int (F_X0_isAnyFilled M)))) M := by
  obtain ⟨r, h⟩ : ∃ r, F_X0_isAnyFilled M = r := ⟨_, rfl⟩
  rw [h]
  unfold F_X0_isAnyFilled at h
  refine Con.of (by decide) rfl (by decide) (fun κ => ?_)
  show J κ E mi_X0_isAnyFilled _ 0 0 [(0, .ref 44)] M 0 []
  refine J_aload_n (pc := 0) dX0_isAnyFilled_0 rfl 0 rfl ?_
  refine J_get (c := 44) (ci := 0) (v := .ref 50) (pc := 1) rfl (by decide) rfl lay_X0 5 (by decide) w_166 rfl rfl dX0_isAnyFilled_1 ?_
  refine J_iconst (v := (0 : Int32)) (pc := 4) dX0_isAnyFilled_4 (by decide) ?_
  refine J_iald (c := 50) (N := 4) (pc := 5) rfl (by decide) (vpc rfl) dX0_isAnyFilled_5 ?_
  refine J_topi (y := (M.1 50 0)) rfl ?_
  refine J_aload_n (pc := 6) dX0_isAnyFilled_6 rfl 0 rfl ?_
  refine J_get (c := 44) (ci := 0) (v := .ref 50) (pc := 7) rfl (by decide) rfl lay_X0 5 (by decide) w_166 rfl rfl dX0_isAnyFilled_7 ?_
  refine J_iconst (v := (1 : Int32)) (pc := 10) dX0_isAnyFilled_10 (by decide) ?_
  refine J_iald (c := 50) (N := 4) (pc := 11) rfl (by decide) (vpc rfl) dX0_isAnyFilled_11 ?_
  refine J_topi (y := (M.1 50 1)) rfl ?_
  refine J_iadd (pc := 12) dX0_isAnyFilled_12 ?_
  refine J_aload_n (pc := 13) dX0_isAnyFilled_13 rfl 0 rfl ?_
  refine J_get (c := 44) (ci := 0) (v := .ref 50) (pc := 14) rfl (by decide) rfl lay_X0 5 (by decide) w_166 rfl rfl dX0_isAnyFilled_14 ?_
  refine J_iconst (v := (2 : Int32)) (pc := 17) dX0_isAnyFilled_17 (by decide) ?_
  refine J_iald (c := 50) (N := 4) (pc := 18) rfl (by decide) (vpc rfl) dX0_isAnyFilled_18 ?_
  refine J_topi (y := (M.1 50 2)) rfl ?_
  refine J_iadd (pc := 19) dX0_isAnyFilled_19 ?_
  refine J_aload_n (pc := 20) dX0_isAnyFilled_20 rfl 0 rfl ?_
  refine J_get (c := 44) (ci := 0) (v := .ref 50) (pc := 21) rfl (by decide) rfl lay_X0 5 (by decide) w_166 rfl rfl dX0_isAnyFilled_21 ?_
  refine J_iconst (v := (3 : Int32)) (pc := 24) dX0_isAnyFilled_24 (by decide) ?_
  refine J_iald (c := 50) (N := 4) (pc := 25) rfl (by decide) (vpc rfl) dX0_isAnyFilled_25 ?_
  refine J_topi (y := (M.1 50 3)) rfl ?_
  refine J_iadd (pc := 26) dX0_isAnyFilled_26 ?_
  refine J_if_le (pc := 27) (tgt := 34) dX0_isAnyFilled_27 (by decide) (fun c1 => ?_) (fun c1 => ?_)
  · replace h := ifp c1 h
    refine J_iconst (v := (0 : Int32)) (pc := 34) dX0_isAnyFilled_34 (by decide) ?_
    subst h
    exact J_zreturn dX0_isAnyFilled_35 rfl (Or.inl rfl) rfl rfl rfl rfl
  · replace h := ifn c1 h
    refine J_iconst (v := (1 : Int32)) (pc := 30) dX0_isAnyFilled_30 (by decide) ?_
    refine J_goto (pc := 31) (tgt := 35) dX0_isAnyFilled_31 (by decide) ?_
    subst h
    exact J_zreturn dX0_isAnyFilled_35 rfl (Or.inr rfl) rfl rfl rfl rfl
set_option maxHeartbeats 4000000 in
set_option maxRecDepth 100000 in
theorem kL_X0_fuelByBuckets_L6 {κ : Kx} {E : En} {Q : State → Prop} {k n : Nat} {ρ : Type} {r : ρ} (K24 : Wd → Option ρ) (hK24 : ∀ (M : Wd), K24 M = some r → J κ E mi_X0_fuelByBuckets Q k n [(0, .ref 44)] M 24 []) : ∀ (m : Nat) (x1 : Int32) (M : Wd), F_X0_fuelByBuckets_L6 K24 m x1 M = some r → J κ E mi_X0_fuelByBuckets Q k n [(0, .ref 44), (1, .int x1)] M 6 [] := by
  intro m
  induction m with
  | zero => intro x1 M h; exact (nomatch (show (none : Option ρ) = some r from h))
  | succ m ih =>
    intro x1 M h
    unfold F_X0_fuelByBuckets_L6 at h
    refine J_iload_n (pc := 6) dX0_fuelByBuckets_6 rfl 1 rfl ?_
    refine J_iconst (v := (4 : Int32)) (pc := 7) dX0_fuelByBuckets_7 (by decide) ?_
    refine J_icmp_ge (pc := 8) (tgt := 24) dX0_fuelByBuckets_8 (by decide) (fun c3 => ?_) (fun c3 => ?_)
    · replace h := ifp c3 h
      refine J_sub [0] rfl ?_
      exact hK24 _ h
    · replace h := ifn c3 h
      refine J_aload_n (pc := 11) dX0_fuelByBuckets_11 rfl 0 rfl ?_
      refine J_get (c := 44) (ci := 0) (v := .ref 50) (pc := 12) rfl (by decide) rfl lay_X0 5 (by decide) w_166 rfl rfl dX0_fuelByBuckets_12 ?_
      refine J_iload_n (pc := 15) dX0_fuelByBuckets_15 rfl 1 rfl ?_
      refine J_iconst (v := (0 : Int32)) (pc := 16) dX0_fuelByBuckets_16 (by decide) ?_
      obtain ⟨hk4, h⟩ := inb_e h
      refine J_iast (c := 50) (N := 4) (pc := 17) (fun _ => rfl) (by decide) hk4 dX0_fuelByBuckets_17 ?_
      obtain ⟨v5, e6, h⟩ := bnd_e h
      refine J_iinc (v := v5) (pc := 18) dX0_fuelByBuckets_18 1 rfl (by rw [e6]; rfl) (Nat.le_of_ble_eq_true rfl) [1, 0] rfl ?_
      refine J_goto (pc := 21) (tgt := 6) dX0_fuelByBuckets_21 (by decide) ?_
      exact ih _ _ h
set_option maxHeartbeats 4000000 in
set_option maxRecDepth 100000 in
theorem kL_X0_fuelByBuckets_L35 {κ : Kx} {E : En} {Q : State → Prop} {k n : Nat} {ρ : Type} {r : ρ} (K57 : Int32 → Wd → Option ρ) (K70 : Wd → Option ρ) (hK57 : ∀ (x1 : Int32) (M : Wd), K57 x1 M = some r → J κ E mi_X0_fuelByBuckets Q k n [(1, .int x1)] M 57 []) (hK70 : ∀ (M : Wd), K70 M = some r → J κ E mi_X0_fuelByBuckets Q k n [] M 70 []) : ∀ (m : Nat) (x1 : Int32) (M : Wd), F_X0_fuelByBuckets_L35 K57 K70 m x1 M = some r → J κ E mi_X0_fuelByBuckets Q k n [(0, .ref 44), (1, .int x1)] M 35 [] := by
  intro m
  induction m with
  | zero => intro x1 M h; exact (nomatch (show (none : Option ρ) = some r from h))
  | succ m ih =>
    intro x1 M h
    unfold F_X0_fuelByBuckets_L35 at h
    refine J_iload_n (pc := 35) dX0_fuelByBuckets_35 rfl 1 rfl ?_
    refine J_sipush (v := (12288 : Int32)) (pc := 36) dX0_fuelByBuckets_36 (by decide) ?_
    refine J_icmp_gt (pc := 39) (tgt := 70) dX0_fuelByBuckets_39 (by decide) (fun c10 => ?_) (fun c10 => ?_)
    · replace h := ifp c10 h
      refine J_sub [] rfl ?_
      exact hK70 _ h
    · replace h := ifn c10 h
      refine J_aload_n (pc := 42) dX0_fuelByBuckets_42 rfl 0 rfl ?_
      refine J_callV (g := mi_X0_isAnyFilled) (ci := 0) (pc := 43) [] [] mv_X0_isAnyFilled w_494 (k_X0_isAnyFilled _) rfl (by decide) rfl rfl rfl ⟨⟨Nat.le_of_ble_eq_true rfl, Nat.le_of_ble_eq_true rfl⟩, Nat.le_of_ble_eq_true rfl, Nat.le_of_ble_eq_true rfl⟩ (Nat.le_of_ble_eq_true rfl) dX0_fuelByBuckets_43 (Jk_v rfl rfl fun hok11 => ?_)
      refine J_if_eq (pc := 46) (tgt := 70) dX0_fuelByBuckets_46 (by decide) (fun c12 => ?_) (fun c12 => ?_)
      · replace h := ifp c12 h
        refine J_sub [] rfl ?_
        exact hK70 _ h
      · replace h := ifn c12 h
        refine J_aload_n (pc := 49) dX0_fuelByBuckets_49 rfl 0 rfl ?_
        refine J_iload_n (pc := 50) dX0_fuelByBuckets_50 rfl 1 rfl ?_
        obtain ⟨v13, hc14, h⟩ := obind_e h
        refine J_callV (g := mi_X0_hasOutFor) (ci := 0) (pc := 51) [.int x1] [] mv_X0_hasOutFor w_498 (k_X0_hasOutFor x1 _ hc14) rfl (by decide) rfl rfl rfl ⟨⟨Nat.le_of_ble_eq_true rfl, Nat.le_of_ble_eq_true rfl⟩, Nat.le_of_ble_eq_true rfl, Nat.le_of_ble_eq_true rfl⟩ (Nat.le_of_ble_eq_true rfl) dX0_fuelByBuckets_51 (Jk_v rfl rfl fun hok15 => ?_)
        refine J_if_eq (pc := 54) (tgt := 59) dX0_fuelByBuckets_54 (by decide) (fun c16 => ?_) (fun c16 => ?_)
        · replace h := ifp c16 h
          refine J_aload_n (pc := 59) dX0_fuelByBuckets_59 rfl 0 rfl ?_
          refine J_iload_n (pc := 60) dX0_fuelByBuckets_60 rfl 1 rfl ?_
          obtain ⟨M17, hc18, h⟩ := obind_e h
          refine J_callV (g := mi_X0_emptyBucket) (ci := 0) (pc := 61) [.int x1] [] mv_X0_emptyBucket w_506 (k_X0_emptyBucket x1 _ hc18) rfl (by decide) rfl rfl rfl ⟨⟨Nat.le_of_ble_eq_true rfl, Nat.le_of_ble_eq_true rfl⟩, Nat.le_of_ble_eq_true rfl, Nat.le_of_ble_eq_true rfl⟩ (Nat.le_of_ble_eq_true rfl) dX0_fuelByBuckets_61 (Jk_0 rfl rfl ?_)
          obtain ⟨v19, e20, h⟩ := bnd_e h
          refine J_iinc (v := v19) (pc := 64) dX0_fuelByBuckets_64 1 rfl (by rw [e20]; rfl) (Nat.le_of_ble_eq_true rfl) [1, 0] rfl ?_
          refine J_goto (pc := 67) (tgt := 35) dX0_fuelByBuckets_67 (by decide) ?_
          exact ih _ _ h
        · replace h := ifn c16 h
          refine J_sub [1] rfl ?_
          exact hK57 _ _ h
set_option maxHeartbeats 4000000 in
set_option maxRecDepth 100000 in
theorem k_X0_fuelByBuckets {E : En} (M : Wd) {r : Int32} {M' : Wd} (h : F_X0_fuelByBuckets M = some (r, M')) : Con E mi_X0_fuelByBuckets [.ref 44] M (.inl (some (.int r))) M' := by
  unfold F_X0_fuelByBuckets at h
  refine Con.of (by decide) rfl (by decide) (fun κ => ?_)
  show J κ E mi_X0_fuelByBuckets _ 0 0 [(0, .ref 44)] M 0 []
  refine J_aload_n (pc := 0) dX0_fuelByBuckets_0 rfl 0 rfl ?_
  obtain ⟨M1, hc2, h⟩ := obind_e h
  refine J_callV (g := mi_X0_forget) (ci := 0) (pc := 1) [] [] mv_X0_forget w_426 (k_X0_forget _ hc2) rfl (by decide) rfl rfl rfl ⟨⟨Nat.le_of_ble_eq_true rfl, Nat.le_of_ble_eq_true rfl⟩, Nat.le_of_ble_eq_true rfl, Nat.le_of_ble_eq_true rfl⟩ (Nat.le_of_ble_eq_true rfl) dX0_fuelByBuckets_1 (Jk_0 rfl rfl ?_)
  refine J_iconst (v := (0 : Int32)) (pc := 4) dX0_fuelByBuckets_4 (by decide) ?_
  refine J_istore_n (pc := 5) dX0_fuelByBuckets_5 rfl (Nat.le_of_ble_eq_true rfl) [1, 0] rfl ?_
  refine kL_X0_fuelByBuckets_L6 _ (fun M7 h => ?_) fuelN _ _ h
  refine J_aload_n (pc := 24) dX0_fuelByBuckets_24 rfl 0 rfl ?_
  refine J_aload_n (pc := 25) dX0_fuelByBuckets_25 rfl 0 rfl ?_
  refine J_get (c := 44) (ci := 0) (v := .int (M7.1 44 8)) (pc := 26) rfl (by decide) rfl lay_X0 8 (by decide) w_169 rfl rfl dX0_fuelByBuckets_26 ?_
  refine J_iconst (v := (0 : Int32)) (pc := 29) dX0_fuelByBuckets_29 (by decide) ?_
  obtain ⟨M8, hc9, h⟩ := obind_e h
  refine J_callV (g := mi_X0_cheapen) (ci := 0) (pc := 30) [.int (M7.1 44 8), .int (0 : Int32)] [] mv_X0_cheapen w_486 (k_X0_cheapen (M7.1 44 8) (0 : Int32) _ hc9) rfl (by decide) rfl rfl rfl ⟨⟨Nat.le_of_ble_eq_true rfl, Nat.le_of_ble_eq_true rfl⟩, Nat.le_of_ble_eq_true rfl, Nat.le_of_ble_eq_true rfl⟩ (Nat.le_of_ble_eq_true rfl) dX0_fuelByBuckets_30 (Jk_0 rfl rfl ?_)
  refine J_iconst (v := (0 : Int32)) (pc := 33) dX0_fuelByBuckets_33 (by decide) ?_
  refine J_istore_n (pc := 34) dX0_fuelByBuckets_34 rfl (Nat.le_of_ble_eq_true rfl) [1, 0] rfl ?_
  refine kL_X0_fuelByBuckets_L35 _ _ (fun v21 M22 h => ?_) (fun M23 h => ?_) fuelN _ _ h
  · refine J_iload_n (pc := 57) dX0_fuelByBuckets_57 rfl 0 rfl ?_
    cases h
    exact J_ireturn dX0_fuelByBuckets_58 rfl rfl rfl rfl rfl
  · refine J_iconst (v := (-1 : Int32)) (pc := 70) dX0_fuelByBuckets_70 (by decide) ?_
    cases h
    exact J_ireturn dX0_fuelByBuckets_71 rfl rfl rfl rfl rfl
set_option maxHeartbeats 4000000 in
set_option maxRecDepth 100000 in
theorem kL_X0_hasCheapenedAround_L35 {κ : Kx} {E : En} {Q : State → Prop} {k n : Nat} {ρ : Type} {r : ρ} (a1 : Int32) (a3 : Int32) (a4 : Int32) (K79 : Int32 → Wd → Option ρ) (hK79 : ∀ (x2 : Int32) (M : Wd), K79 x2 M = some r → J κ E mi_X0_hasCheapenedAround Q k n [(0, .ref 44), (1, .int a1), (2, .int x2), (3, .int a3)] M 79 []) : ∀ (m : Nat) (x2 : Int32) (x5 : Int32) (M : Wd), F_X0_hasCheapenedAround_L35 a1 a3 a4 K79 m x2 x5 M = some r → J κ E mi_X0_hasCheapenedAround Q k n [(0, .ref 44), (1, .int a1), (2, .int x2), (3, .int a3), (4, .int a4), (5, .int x5)] M 35 [] := by
  intro m
  induction m with
  | zero => intro x2 x5 M h; exact (nomatch (show (none : Option ρ) = some r from h))
  | succ m ih =>
    intro x2 x5 M h
    unfold F_X0_hasCheapenedAround_L35 at h
    refine J_iload (pc := 35) dX0_hasCheapenedAround_35 5 rfl ?_
    refine J_iconst (v := (1 : Int32)) (pc := 37) dX0_hasCheapenedAround_37 (by decide) ?_
    refine J_icmp_gt (pc := 38) (tgt := 79) dX0_hasCheapenedAround_38 (by decide) (fun c11 => ?_) (fun c11 => ?_)
    · replace h := ifp c11 h
      refine J_sub [0, 1, 2, 3] rfl ?_
      exact hK79 _ _ h
    · replace h := ifn c11 h
      refine J_aload_n (pc := 41) dX0_hasCheapenedAround_41 rfl 0 rfl ?_
      refine J_iload_n (pc := 42) dX0_hasCheapenedAround_42 rfl 1 rfl ?_
      refine J_iload_n (pc := 43) dX0_hasCheapenedAround_43 rfl 3 rfl ?_
      refine J_iload (pc := 44) dX0_hasCheapenedAround_44 5 rfl ?_
      obtain ⟨v12, hc13, h⟩ := obind_e h
      refine J_callV (g := mi_X0_behindStep) (ci := 0) (pc := 46) [.int a1, .int a3, .int x5] [] mv_X0_behindStep w_450 (k_X0_behindStep a1 a3 x5 _ hc13) rfl (by decide) rfl rfl rfl ⟨⟨Nat.le_of_ble_eq_true rfl, Nat.le_of_ble_eq_true rfl⟩, Nat.le_of_ble_eq_true rfl, Nat.le_of_ble_eq_true rfl⟩ (Nat.le_of_ble_eq_true rfl) dX0_hasCheapenedAround_46 (Jk_v rfl rfl fun hok14 => ?_)
      refine J_istore (pc := 49) dX0_hasCheapenedAround_49 (Nat.le_of_ble_eq_true rfl) [1, 2, 3, 4, 5, 6, 0] rfl ?_
      refine J_aload_n (pc := 51) dX0_hasCheapenedAround_51 rfl 0 rfl ?_
      refine J_iload (pc := 52) dX0_hasCheapenedAround_52 6 rfl ?_
      refine J_iload (pc := 54) dX0_hasCheapenedAround_54 4 rfl ?_
      obtain ⟨v15, hc16, h⟩ := obind_e h
      refine J_callV (g := mi_X0_isCheaper) (ci := 0) (pc := 56) [.int v12, .int a4] [] mv_X0_isCheaper w_490 (k_X0_isCheaper v12 a4 _ hc16) rfl (by decide) rfl rfl rfl ⟨⟨Nat.le_of_ble_eq_true rfl, Nat.le_of_ble_eq_true rfl⟩, Nat.le_of_ble_eq_true rfl, Nat.le_of_ble_eq_true rfl⟩ (Nat.le_of_ble_eq_true rfl) dX0_hasCheapenedAround_56 (Jk_v rfl rfl fun hok17 => ?_)
      obtain ⟨v18, M19, hv22, h⟩ := obind2_e h
      refine J_join [(0, .ref 44), (1, .int a1), (2, .int v18), (3, .int a3), (4, .int a4), (5, .int x5)] M19 73 [] ?_ (fun hJ => ?_)
      · obtain ⟨v23, e24, h⟩ := bnd_e h
        refine J_iinc (v := v23) (pc := 73) dX0_hasCheapenedAround_73 5 rfl (by rw [e24]; rfl) (Nat.le_of_ble_eq_true rfl) [1, 2, 3, 4, 5, 0] rfl ?_
        refine J_goto (pc := 76) (tgt := 35) dX0_hasCheapenedAround_76 (by decide) ?_
        exact ih _ _ _ h
      · replace h := hv22
        refine J_if_eq (pc := 59) (tgt := 73) dX0_hasCheapenedAround_59 (by decide) (fun c20 => ?_) (fun c20 => ?_)
        · replace h := ifp c20 h
          cases h
          refine J_sub [0, 1, 2, 3, 4, 5] rfl ?_
          exact hJ
        · replace h := ifn c20 h
          refine J_aload_n (pc := 62) dX0_hasCheapenedAround_62 rfl 0 rfl ?_
          refine J_get (c := 44) (ci := 0) (v := .ref 47) (pc := 63) rfl (by decide) rfl lay_X0 2 (by decide) w_163 rfl rfl dX0_hasCheapenedAround_63 ?_
          refine J_iload (pc := 66) dX0_hasCheapenedAround_66 6 rfl ?_
          refine J_iload (pc := 68) dX0_hasCheapenedAround_68 4 rfl ?_
          obtain ⟨hk21, h⟩ := inb_e h
          refine J_iast (c := 47) (N := 4096) (pc := 70) (fun _ => rfl) (by decide) hk21 dX0_hasCheapenedAround_70 ?_
          refine J_iconst (v := (1 : Int32)) (pc := 71) dX0_hasCheapenedAround_71 (by decide) ?_
          refine J_istore_n (pc := 72) dX0_hasCheapenedAround_72 rfl (Nat.le_of_ble_eq_true rfl) [1, 2, 0, 3, 4, 5, 6] rfl ?_
          cases h
          refine J_sub [0, 1, 2, 3, 4, 5] rfl ?_
          exact hJ
set_option maxHeartbeats 4000000 in
set_option maxRecDepth 100000 in
theorem kL_X0_hasCheapenedAround_L4 {κ : Kx} {E : En} {Q : State → Prop} {k n : Nat} {ρ : Type} {r : ρ} (a1 : Int32) (K85 : Int32 → Wd → Option ρ) (hK85 : ∀ (x2 : Int32) (M : Wd), K85 x2 M = some r → J κ E mi_X0_hasCheapenedAround Q k n [(2, .int x2)] M 85 []) : ∀ (m : Nat) (x2 : Int32) (x3 : Int32) (M : Wd), F_X0_hasCheapenedAround_L4 a1 K85 m x2 x3 M = some r → J κ E mi_X0_hasCheapenedAround Q k n [(0, .ref 44), (1, .int a1), (2, .int x2), (3, .int x3)] M 4 [] := by
  intro m
  induction m with
  | zero => intro x2 x3 M h; exact (nomatch (show (none : Option ρ) = some r from h))
  | succ m ih =>
    intro x2 x3 M h
    unfold F_X0_hasCheapenedAround_L4 at h
    refine J_iload_n (pc := 4) dX0_hasCheapenedAround_4 rfl 3 rfl ?_
    refine J_aload_n (pc := 5) dX0_hasCheapenedAround_5 rfl 0 rfl ?_
    refine J_get (c := 44) (ci := 0) (v := .int (M.1 44 6)) (pc := 6) rfl (by decide) rfl lay_X0 6 (by decide) w_167 rfl rfl dX0_hasCheapenedAround_6 ?_
    refine J_icmp_ge (pc := 9) (tgt := 85) dX0_hasCheapenedAround_9 (by decide) (fun c1 => ?_) (fun c1 => ?_)
    · replace h := ifp c1 h
      refine J_sub [2] rfl ?_
      exact hK85 _ _ h
    · replace h := ifn c1 h
      refine J_iload_n (pc := 12) dX0_hasCheapenedAround_12 rfl 3 rfl ?_
      refine J_bipush (v := (6 : Int32)) (pc := 13) dX0_hasCheapenedAround_13 (by decide) ?_
      refine J_icmp_ge (pc := 15) (tgt := 85) dX0_hasCheapenedAround_15 (by decide) (fun c2 => ?_) (fun c2 => ?_)
      · replace h := ifp c2 h
        refine J_sub [2] rfl ?_
        exact hK85 _ _ h
      · replace h := ifn c2 h
        refine J_aload_n (pc := 18) dX0_hasCheapenedAround_18 rfl 0 rfl ?_
        refine J_iload_n (pc := 19) dX0_hasCheapenedAround_19 rfl 1 rfl ?_
        obtain ⟨v3, hc4, h⟩ := obind_e h
        refine J_callV (g := mi_X0_costOf) (ci := 0) (pc := 20) [.int a1] [] mv_X0_costOf w_438 (k_X0_costOf a1 _ hc4) rfl (by decide) rfl rfl rfl ⟨⟨Nat.le_of_ble_eq_true rfl, Nat.le_of_ble_eq_true rfl⟩, Nat.le_of_ble_eq_true rfl, Nat.le_of_ble_eq_true rfl⟩ (Nat.le_of_ble_eq_true rfl) dX0_hasCheapenedAround_20 (Jk_v rfl rfl fun hok5 => ?_)
        refine J_aload_n (pc := 23) dX0_hasCheapenedAround_23 rfl 0 rfl ?_
        refine J_get (c := 44) (ci := 0) (v := .ref 45) (pc := 24) rfl (by decide) rfl lay_X0 0 (by decide) w_161 rfl rfl dX0_hasCheapenedAround_24 ?_
        refine J_iload_n (pc := 27) dX0_hasCheapenedAround_27 rfl 3 rfl ?_
        obtain ⟨v6, e7, hk8, h⟩ := ldi_e h
        refine J_iald (c := 45) (N := 6) (pc := 28) rfl (by decide) hk8 dX0_hasCheapenedAround_28 ?_
        refine J_topi e7 ?_
        refine J_iadd (pc := 29) dX0_hasCheapenedAround_29 ?_
        obtain ⟨v9, e10, h⟩ := bnd_e h
        refine J_topi e10 ?_
        refine J_istore (pc := 30) dX0_hasCheapenedAround_30 (Nat.le_of_ble_eq_true rfl) [1, 2, 3, 4, 0] rfl ?_
        refine J_iconst (v := (-1 : Int32)) (pc := 32) dX0_hasCheapenedAround_32 (by decide) ?_
        refine J_istore (pc := 33) dX0_hasCheapenedAround_33 (Nat.le_of_ble_eq_true rfl) [1, 2, 3, 4, 5, 0] rfl ?_
        refine kL_X0_hasCheapenedAround_L35 _ _ _ _ (fun v25 M26 h => ?_) fuelN _ _ _ h
        obtain ⟨v27, e28, h⟩ := bnd_e h
        refine J_iinc (v := v27) (pc := 79) dX0_hasCheapenedAround_79 3 rfl (by rw [e28]; rfl) (Nat.le_of_ble_eq_true rfl) [1, 2, 3, 0] rfl ?_
        refine J_goto (pc := 82) (tgt := 4) dX0_hasCheapenedAround_82 (by decide) ?_
        exact ih _ _ _ h
set_option maxHeartbeats 4000000 in
set_option maxRecDepth 100000 in
theorem k_X0_hasCheapenedAround {E : En} (a1 : Int32) (M : Wd) {r : Int32} {M' : Wd} (h : F_X0_hasCheapenedAround a1 M = some (r, M')) : Con E mi_X0_hasCheapenedAround [.ref 44, .int a1] M (.inl (some (.int r))) M' := by
  unfold F_X0_hasCheapenedAround at h
  refine Con.of (by decide) rfl (by decide) (fun κ => ?_)
  show J κ E mi_X0_hasCheapenedAround _ 0 0 [(0, .ref 44), (1, .int a1)] M 0 []
  refine J_iconst (v := (0 : Int32)) (pc := 0) dX0_hasCheapenedAround_0 (by decide) ?_
  refine J_istore_n (pc := 1) dX0_hasCheapenedAround_1 rfl (Nat.le_of_ble_eq_true rfl) [1, 2, 0] rfl ?_
  refine J_iconst (v := (0 : Int32)) (pc := 2) dX0_hasCheapenedAround_2 (by decide) ?_
  refine J_istore_n (pc := 3) dX0_hasCheapenedAround_3 rfl (Nat.le_of_ble_eq_true rfl) [1, 2, 3, 0] rfl ?_
  refine kL_X0_hasCheapenedAround_L4 _ _ (fun v29 M30 h => ?_) fuelN _ _ _ h
  refine J_iload_n (pc := 85) dX0_hasCheapenedAround_85 rfl 0 rfl ?_
  obtain ⟨hb31, h⟩ := chB_e h
  cases h
  exact J_zreturn dX0_hasCheapenedAround_86 rfl hb31 rfl rfl rfl rfl
set_option maxHeartbeats 4000000 in
set_option maxRecDepth 100000 in
theorem kL_X0_fuelByRounds_L32 {κ : Kx} {E : En} {Q : State → Prop} {k n : Nat} {ρ : Type} {r : ρ} (a2 : Int32) (K65 : Int32 → Wd → Option ρ) (hK65 : ∀ (x1 : Int32) (M : Wd), K65 x1 M = some r → J κ E mi_X0_fuelByRounds Q k n [(0, .ref 44), (1, .int x1), (2, .int a2)] M 65 []) : ∀ (m : Nat) (x1 : Int32) (x3 : Int32) (M : Wd), F_X0_fuelByRounds_L32 a2 K65 m x1 x3 M = some r → J κ E mi_X0_fuelByRounds Q k n [(0, .ref 44), (1, .int x1), (2, .int a2), (3, .int x3)] M 32 [] := by
  intro m
  induction m with
  | zero => intro x1 x3 M h; exact (nomatch (show (none : Option ρ) = some r from h))
  | succ m ih =>
    intro x1 x3 M h
    unfold F_X0_fuelByRounds_L32 at h
    refine J_iload_n (pc := 32) dX0_fuelByRounds_32 rfl 3 rfl ?_
    refine J_aload_n (pc := 33) dX0_fuelByRounds_33 rfl 0 rfl ?_
    refine J_get (c := 44) (ci := 0) (v := .int (M.1 44 7)) (pc := 34) rfl (by decide) rfl lay_X0 7 (by decide) w_168 rfl rfl dX0_fuelByRounds_34 ?_
    refine J_icmp_ge (pc := 37) (tgt := 65) dX0_fuelByRounds_37 (by decide) (fun c7 => ?_) (fun c7 => ?_)
    · replace h := ifp c7 h
      refine J_sub [0, 1, 2] rfl ?_
      exact hK65 _ _ h
    · replace h := ifn c7 h
      refine J_aload_n (pc := 40) dX0_fuelByRounds_40 rfl 0 rfl ?_
      refine J_iload_n (pc := 41) dX0_fuelByRounds_41 rfl 3 rfl ?_
      obtain ⟨v8, hc9, h⟩ := obind_e h
      refine J_callV (g := mi_X0_costOf) (ci := 0) (pc := 42) [.int x3] [] mv_X0_costOf w_438 (k_X0_costOf x3 _ hc9) rfl (by decide) rfl rfl rfl ⟨⟨Nat.le_of_ble_eq_true rfl, Nat.le_of_ble_eq_true rfl⟩, Nat.le_of_ble_eq_true rfl, Nat.le_of_ble_eq_true rfl⟩ (Nat.le_of_ble_eq_true rfl) dX0_fuelByRounds_42 (Jk_v rfl rfl fun hok10 => ?_)
      refine J_iconst (v := (-1 : Int32)) (pc := 45) dX0_fuelByRounds_45 (by decide) ?_
      obtain ⟨v11, M12, hv19, h⟩ := obind2_e h
      refine J_join [(0, .ref 44), (1, .int v11), (2, .int a2), (3, .int x3)] M12 59 [] ?_ (fun hJ => ?_)
      · obtain ⟨v20, e21, h⟩ := bnd_e h
        refine J_iinc (v := v20) (pc := 59) dX0_fuelByRounds_59 3 rfl (by rw [e21]; rfl) (Nat.le_of_ble_eq_true rfl) [1, 2, 3, 0] rfl ?_
        refine J_goto (pc := 62) (tgt := 32) dX0_fuelByRounds_62 (by decide) ?_
        exact ih _ _ _ h
      · replace h := hv19
        refine J_icmp_eq (pc := 46) (tgt := 59) dX0_fuelByRounds_46 (by decide) (fun c13 => ?_) (fun c13 => ?_)
        · replace h := ifp c13 h
          cases h
          exact hJ
        · replace h := ifn c13 h
          refine J_aload_n (pc := 49) dX0_fuelByRounds_49 rfl 0 rfl ?_
          refine J_iload_n (pc := 50) dX0_fuelByRounds_50 rfl 3 rfl ?_
          obtain ⟨v14, M15, hc16, h⟩ := obind2_e h
          refine J_callV (g := mi_X0_hasCheapenedAround) (ci := 0) (pc := 51) [.int x3] [] mv_X0_hasCheapenedAround w_518 (k_X0_hasCheapenedAround x3 _ hc16) rfl (by decide) rfl rfl rfl ⟨⟨Nat.le_of_ble_eq_true rfl, Nat.le_of_ble_eq_true rfl⟩, Nat.le_of_ble_eq_true rfl, Nat.le_of_ble_eq_true rfl⟩ (Nat.le_of_ble_eq_true rfl) dX0_fuelByRounds_51 (Jk_v rfl rfl fun hok17 => ?_)
          refine J_if_eq (pc := 54) (tgt := 59) dX0_fuelByRounds_54 (by decide) (fun c18 => ?_) (fun c18 => ?_)
          · replace h := ifp c18 h
            cases h
            exact hJ
          · replace h := ifn c18 h
            refine J_iconst (v := (1 : Int32)) (pc := 57) dX0_fuelByRounds_57 (by decide) ?_
            refine J_istore_n (pc := 58) dX0_fuelByRounds_58 rfl (Nat.le_of_ble_eq_true rfl) [1, 0, 2, 3] rfl ?_
            cases h
            exact hJ
set_option maxHeartbeats 4000000 in
set_option maxRecDepth 100000 in
theorem kL_X0_fuelByRounds_L17 {κ : Kx} {E : En} {Q : State → Prop} {k n : Nat} {ρ : Type} {r : ρ} (K71 : Wd → Option ρ) (hK71 : ∀ (M : Wd), K71 M = some r → J κ E mi_X0_fuelByRounds Q k n [(0, .ref 44)] M 71 []) : ∀ (m : Nat) (x1 : Int32) (x2 : Int32) (M : Wd), F_X0_fuelByRounds_L17 K71 m x1 x2 M = some r → J κ E mi_X0_fuelByRounds Q k n [(0, .ref 44), (1, .int x1), (2, .int x2)] M 17 [] := by
  intro m
  induction m with
  | zero => intro x1 x2 M h; exact (nomatch (show (none : Option ρ) = some r from h))
  | succ m ih =>
    intro x1 x2 M h
    unfold F_X0_fuelByRounds_L17 at h
    refine J_iload_n (pc := 17) dX0_fuelByRounds_17 rfl 2 rfl ?_
    refine J_sipush (v := (4096 : Int32)) (pc := 18) dX0_fuelByRounds_18 (by decide) ?_
    refine J_icmp_gt (pc := 21) (tgt := 71) dX0_fuelByRounds_21 (by decide) (fun c5 => ?_) (fun c5 => ?_)
    · replace h := ifp c5 h
      refine J_sub [0] rfl ?_
      exact hK71 _ h
    · replace h := ifn c5 h
      refine J_iload_n (pc := 24) dX0_fuelByRounds_24 rfl 1 rfl ?_
      refine J_if_eq (pc := 25) (tgt := 71) dX0_fuelByRounds_25 (by decide) (fun c6 => ?_) (fun c6 => ?_)
      · replace h := ifp c6 h
        refine J_sub [0] rfl ?_
        exact hK71 _ h
      · replace h := ifn c6 h
        refine J_iconst (v := (0 : Int32)) (pc := 28) dX0_fuelByRounds_28 (by decide) ?_
        refine J_istore_n (pc := 29) dX0_fuelByRounds_29 rfl (Nat.le_of_ble_eq_true rfl) [1, 0, 2] rfl ?_
        refine J_iconst (v := (0 : Int32)) (pc := 30) dX0_fuelByRounds_30 (by decide) ?_
        refine J_istore_n (pc := 31) dX0_fuelByRounds_31 rfl (Nat.le_of_ble_eq_true rfl) [1, 2, 3, 0] rfl ?_
        refine kL_X0_fuelByRounds_L32 _ _ (fun v22 M23 h => ?_) fuelN _ _ _ h
        obtain ⟨v24, e25, h⟩ := bnd_e h
        refine J_iinc (v := v24) (pc := 65) dX0_fuelByRounds_65 2 rfl (by rw [e25]; rfl) (Nat.le_of_ble_eq_true rfl) [1, 2, 0] rfl ?_
        refine J_goto (pc := 68) (tgt := 17) dX0_fuelByRounds_68 (by decide) ?_
        exact ih _ _ _ h
set_option maxHeartbeats 4000000 in
set_option maxRecDepth 100000 in
theorem k_X0_fuelByRounds {E : En} (M : Wd) {r : Int32} {M' : Wd} (h : F_X0_fuelByRounds M = some (r, M')) : Con E mi_X0_fuelByRounds [.ref 44] M (.inl (some (.int r))) M' := by
  unfold F_X0_fuelByRounds at h
  refine Con.of (by decide) rfl (by decide) (fun κ => ?_)
  show J κ E mi_X0_fuelByRounds _ 0 0 [(0, .ref 44)] M 0 []
  refine J_aload_n (pc := 0) dX0_fuelByRounds_0 rfl 0 rfl ?_
  obtain ⟨M1, hc2, h⟩ := obind_e h
  refine J_callV (g := mi_X0_forget) (ci := 0) (pc := 1) [] [] mv_X0_forget w_426 (k_X0_forget _ hc2) rfl (by decide) rfl rfl rfl ⟨⟨Nat.le_of_ble_eq_true rfl, Nat.le_of_ble_eq_true rfl⟩, Nat.le_of_ble_eq_true rfl, Nat.le_of_ble_eq_true rfl⟩ (Nat.le_of_ble_eq_true rfl) dX0_fuelByRounds_1 (Jk_0 rfl rfl ?_)
  refine J_aload_n (pc := 4) dX0_fuelByRounds_4 rfl 0 rfl ?_
  refine J_aload_n (pc := 5) dX0_fuelByRounds_5 rfl 0 rfl ?_
  refine J_get (c := 44) (ci := 0) (v := .int (M1.1 44 8)) (pc := 6) rfl (by decide) rfl lay_X0 8 (by decide) w_169 rfl rfl dX0_fuelByRounds_6 ?_
  refine J_iconst (v := (0 : Int32)) (pc := 9) dX0_fuelByRounds_9 (by decide) ?_
  obtain ⟨M3, hc4, h⟩ := obind_e h
  refine J_callV (g := mi_X0_find) (ci := 0) (pc := 10) [.int (M1.1 44 8), .int (0 : Int32)] [] mv_X0_find w_430 (k_X0_find (M1.1 44 8) (0 : Int32) _ hc4) rfl (by decide) rfl rfl rfl ⟨⟨Nat.le_of_ble_eq_true rfl, Nat.le_of_ble_eq_true rfl⟩, Nat.le_of_ble_eq_true rfl, Nat.le_of_ble_eq_true rfl⟩ (Nat.le_of_ble_eq_true rfl) dX0_fuelByRounds_10 (Jk_0 rfl rfl ?_)
  refine J_iconst (v := (1 : Int32)) (pc := 13) dX0_fuelByRounds_13 (by decide) ?_
  refine J_istore_n (pc := 14) dX0_fuelByRounds_14 rfl (Nat.le_of_ble_eq_true rfl) [1, 0] rfl ?_
  refine J_iconst (v := (0 : Int32)) (pc := 15) dX0_fuelByRounds_15 (by decide) ?_
  refine J_istore_n (pc := 16) dX0_fuelByRounds_16 rfl (Nat.le_of_ble_eq_true rfl) [1, 2, 0] rfl ?_
  refine kL_X0_fuelByRounds_L17 _ (fun M26 h => ?_) fuelN _ _ _ h
  refine J_aload_n (pc := 71) dX0_fuelByRounds_71 rfl 0 rfl ?_
  obtain ⟨v27, hc28, h⟩ := obind_e h
  refine J_callV (g := mi_X0_leastCostOut) (ci := 0) (pc := 72) [] [] mv_X0_leastCostOut w_454 (k_X0_leastCostOut _ hc28) rfl (by decide) rfl rfl rfl ⟨⟨Nat.le_of_ble_eq_true rfl, Nat.le_of_ble_eq_true rfl⟩, Nat.le_of_ble_eq_true rfl, Nat.le_of_ble_eq_true rfl⟩ (Nat.le_of_ble_eq_true rfl) dX0_fuelByRounds_72 (Jk_v rfl rfl fun hok29 => ?_)
  cases h
  exact J_ireturn dX0_fuelByRounds_75 rfl rfl rfl rfl rfl
set_option maxHeartbeats 4000000 in
set_option maxRecDepth 100000 in
theorem k_X1_hasCar {E : En} (a1 : Int32) (M : Wd) : Con E mi_X1_hasCar [.ref 1, .int a1] M (.inl (some (.int (F_X1_hasCar a1 M)))) M := by
  obtain ⟨r, h⟩ : ∃ r, F_X1_hasCar a1 M = r := ⟨_, rfl⟩
  rw [h]
  unfold F_X1_hasCar at h
  refine Con.of (by decide) rfl (by decide) (fun κ => ?_)
  show J κ E mi_X1_hasCar _ 0 0 [(0, .ref 1), (1, .int a1)] M 0 []
  refine J_iload_n (pc := 0) dX1_hasCar_0 rfl 1 rfl ?_
  refine J_if_lt (pc := 1) (tgt := 22) dX1_hasCar_1 (by decide) (fun c1 => ?_) (fun c1 => ?_)
  · replace h := ifp c1 h
    refine J_iconst (v := (0 : Int32)) (pc := 22) dX1_hasCar_22 (by decide) ?_
    subst h
    exact J_zreturn dX1_hasCar_23 rfl (Or.inl rfl) rfl rfl rfl rfl
  · replace h := ifn c1 h
    refine J_iload_n (pc := 4) dX1_hasCar_4 rfl 1 rfl ?_
    refine J_aload_n (pc := 5) dX1_hasCar_5 rfl 0 rfl ?_
    refine J_get (c := 1) (ci := 1) (v := .int (M.1 1 5)) (pc := 6) rfl (by decide) rfl lay_X1 5 (by decide) w_122 rfl rfl dX1_hasCar_6 ?_
    refine J_icmp_ge (pc := 9) (tgt := 22) dX1_hasCar_9 (by decide) (fun c2 => ?_) (fun c2 => ?_)
    · replace h := ifp c2 h
      refine J_iconst (v := (0 : Int32)) (pc := 22) dX1_hasCar_22 (by decide) ?_
      subst h
      exact J_zreturn dX1_hasCar_23 rfl (Or.inl rfl) rfl rfl rfl rfl
    · replace h := ifn c2 h
      refine J_iload_n (pc := 12) dX1_hasCar_12 rfl 1 rfl ?_
      refine J_bipush (v := (6 : Int32)) (pc := 13) dX1_hasCar_13 (by decide) ?_
      refine J_icmp_ge (pc := 15) (tgt := 22) dX1_hasCar_15 (by decide) (fun c3 => ?_) (fun c3 => ?_)
      · replace h := ifp c3 h
        refine J_iconst (v := (0 : Int32)) (pc := 22) dX1_hasCar_22 (by decide) ?_
        subst h
        exact J_zreturn dX1_hasCar_23 rfl (Or.inl rfl) rfl rfl rfl rfl
      · replace h := ifn c3 h
        refine J_iconst (v := (1 : Int32)) (pc := 18) dX1_hasCar_18 (by decide) ?_
        refine J_goto (pc := 19) (tgt := 23) dX1_hasCar_19 (by decide) ?_
        subst h
        exact J_zreturn dX1_hasCar_23 rfl (Or.inr rfl) rfl rfl rfl rfl
set_option maxHeartbeats 4000000 in
set_option maxRecDepth 100000 in
theorem k_X1_hasSlide {E : En} (a1 : Int32) (M : Wd) : Con E mi_X1_hasSlide [.ref 1, .int a1] M (.inl (some (.int (F_X1_hasSlide a1 M)))) M := by
  obtain ⟨r, h⟩ : ∃ r, F_X1_hasSlide a1 M = r := ⟨_, rfl⟩
  rw [h]
  unfold F_X1_hasSlide at h
  refine Con.of (by decide) rfl (by decide) (fun κ => ?_)
  show J κ E mi_X1_hasSlide _ 0 0 [(0, .ref 1), (1, .int a1)] M 0 []
  refine J_iload_n (pc := 0) dX1_hasSlide_0 rfl 1 rfl ?_
  refine J_if_lt (pc := 1) (tgt := 22) dX1_hasSlide_1 (by decide) (fun c1 => ?_) (fun c1 => ?_)
  · replace h := ifp c1 h
    refine J_iconst (v := (0 : Int32)) (pc := 22) dX1_hasSlide_22 (by decide) ?_
    subst h
    exact J_zreturn dX1_hasSlide_23 rfl (Or.inl rfl) rfl rfl rfl rfl
  · replace h := ifn c1 h
    refine J_iload_n (pc := 4) dX1_hasSlide_4 rfl 1 rfl ?_
    refine J_aload_n (pc := 5) dX1_hasSlide_5 rfl 0 rfl ?_
    refine J_get (c := 1) (ci := 1) (v := .int (M.1 1 7)) (pc := 6) rfl (by decide) rfl lay_X1 7 (by decide) w_126 rfl rfl dX1_hasSlide_6 ?_
    refine J_icmp_ge (pc := 9) (tgt := 22) dX1_hasSlide_9 (by decide) (fun c2 => ?_) (fun c2 => ?_)
    · replace h := ifp c2 h
      refine J_iconst (v := (0 : Int32)) (pc := 22) dX1_hasSlide_22 (by decide) ?_
      subst h
      exact J_zreturn dX1_hasSlide_23 rfl (Or.inl rfl) rfl rfl rfl rfl
    · replace h := ifn c2 h
      refine J_iload_n (pc := 12) dX1_hasSlide_12 rfl 1 rfl ?_
      refine J_bipush (v := (60 : Int32)) (pc := 13) dX1_hasSlide_13 (by decide) ?_
      refine J_icmp_ge (pc := 15) (tgt := 22) dX1_hasSlide_15 (by decide) (fun c3 => ?_) (fun c3 => ?_)
      · replace h := ifp c3 h
        refine J_iconst (v := (0 : Int32)) (pc := 22) dX1_hasSlide_22 (by decide) ?_
        subst h
        exact J_zreturn dX1_hasSlide_23 rfl (Or.inl rfl) rfl rfl rfl rfl
      · replace h := ifn c3 h
        refine J_iconst (v := (1 : Int32)) (pc := 18) dX1_hasSlide_18 (by decide) ?_
        refine J_goto (pc := 19) (tgt := 23) dX1_hasSlide_19 (by decide) ?_
        subst h
        exact J_zreturn dX1_hasSlide_23 rfl (Or.inr rfl) rfl rfl rfl rfl
set_option maxHeartbeats 4000000 in
set_option maxRecDepth 100000 in
theorem k_X1_hasWallAt {E : En} (a1 : Int32) (M : Wd) : Con E mi_X1_hasWallAt [.ref 1, .int a1] M (.inl (some (.int (F_X1_hasWallAt a1 M)))) M := by
  obtain ⟨r, h⟩ : ∃ r, F_X1_hasWallAt a1 M = r := ⟨_, rfl⟩
  rw [h]
  unfold F_X1_hasWallAt at h
  refine Con.of (by decide) rfl (by decide) (fun κ => ?_)
  show J κ E mi_X1_hasWallAt _ 0 0 [(0, .ref 1), (1, .int a1)] M 0 []
  refine J_aload_n (pc := 0) dX1_hasWallAt_0 rfl 0 rfl ?_
  refine J_get (c := 1) (ci := 1) (v := .int (M.1 1 6)) (pc := 1) rfl (by decide) rfl lay_X1 6 (by decide) w_124 rfl rfl dX1_hasWallAt_1 ?_
  refine J_iconst (v := (1 : Int32)) (pc := 4) dX1_hasWallAt_4 (by decide) ?_
  refine J_iload_n (pc := 5) dX1_hasWallAt_5 rfl 1 rfl ?_
  refine J_ishl (pc := 6) dX1_hasWallAt_6 ?_
  refine J_iand (pc := 7) dX1_hasWallAt_7 ?_
  refine J_if_eq (pc := 8) (tgt := 15) dX1_hasWallAt_8 (by decide) (fun c1 => ?_) (fun c1 => ?_)
  · replace h := ifp c1 h
    refine J_iconst (v := (0 : Int32)) (pc := 15) dX1_hasWallAt_15 (by decide) ?_
    subst h
    exact J_zreturn dX1_hasWallAt_16 rfl (Or.inl rfl) rfl rfl rfl rfl
  · replace h := ifn c1 h
    refine J_iconst (v := (1 : Int32)) (pc := 11) dX1_hasWallAt_11 (by decide) ?_
    refine J_goto (pc := 12) (tgt := 16) dX1_hasWallAt_12 (by decide) ?_
    subst h
    exact J_zreturn dX1_hasWallAt_16 rfl (Or.inr rfl) rfl rfl rfl rfl
set_option maxHeartbeats 4000000 in
set_option maxRecDepth 100000 in
theorem kL_X1_carAt_L2 {κ : Kx} {E : En} {Q : State → Prop} {k n : Nat} {ρ : Type} {r : ρ} (a1 : Int32) (M : Wd) (K44 : Int32 → Option ρ) (K52 : Option ρ) (hK44 : ∀ (x2 : Int32), K44 x2 = some r → J κ E mi_X1_carAt Q k n [(2, .int x2)] M 44 []) (hK52 : K52 = some r → J κ E mi_X1_carAt Q k n [] M 52 []) : ∀ (m : Nat) (x2 : Int32), F_X1_carAt_L2 a1 M K44 K52 m x2 = some r → J κ E mi_X1_carAt Q k n [(0, .ref 1), (1, .int a1), (2, .int x2)] M 2 [] := by
  intro m
  induction m with
  | zero => intro x2 h; exact (nomatch (show (none : Option ρ) = some r from h))
  | succ m ih =>
    intro x2 h
    unfold F_X1_carAt_L2 at h
    refine J_iload_n (pc := 2) dX1_carAt_2 rfl 2 rfl ?_
    refine J_aload_n (pc := 3) dX1_carAt_3 rfl 0 rfl ?_
    refine J_get (c := 1) (ci := 1) (v := .int (M.1 1 5)) (pc := 4) rfl (by decide) rfl lay_X1 5 (by decide) w_122 rfl rfl dX1_carAt_4 ?_
    refine J_icmp_ge (pc := 7) (tgt := 52) dX1_carAt_7 (by decide) (fun c1 => ?_) (fun c1 => ?_)
    · replace h := ifp c1 h
      refine J_sub [] rfl ?_
      exact hK52 h
    · replace h := ifn c1 h
      refine J_iload_n (pc := 10) dX1_carAt_10 rfl 2 rfl ?_
      refine J_bipush (v := (6 : Int32)) (pc := 11) dX1_carAt_11 (by decide) ?_
      refine J_icmp_ge (pc := 13) (tgt := 52) dX1_carAt_13 (by decide) (fun c2 => ?_) (fun c2 => ?_)
      · replace h := ifp c2 h
        refine J_sub [] rfl ?_
        exact hK52 h
      · replace h := ifn c2 h
        refine J_aload_n (pc := 16) dX1_carAt_16 rfl 0 rfl ?_
        refine J_get (c := 1) (ci := 1) (v := .ref 2) (pc := 17) rfl (by decide) rfl lay_X1 0 (by decide) w_109 rfl rfl dX1_carAt_17 ?_
        refine J_iload_n (pc := 20) dX1_carAt_20 rfl 2 rfl ?_
        obtain ⟨v3, e4, hk5, h⟩ := ldi_e h
        refine J_iald (c := 2) (N := 6) (pc := 21) rfl (by decide) hk5 dX1_carAt_21 ?_
        refine J_topi e4 ?_
        refine J_aload_n (pc := 22) dX1_carAt_22 rfl 0 rfl ?_
        refine J_get (c := 1) (ci := 1) (v := .ref 3) (pc := 23) rfl (by decide) rfl lay_X1 1 (by decide) w_112 rfl rfl dX1_carAt_23 ?_
        refine J_iload_n (pc := 26) dX1_carAt_26 rfl 2 rfl ?_
        obtain ⟨v6, e7, hk8, h⟩ := ldi_e h
        refine J_iald (c := 3) (N := 6) (pc := 27) rfl (by decide) hk8 dX1_carAt_27 ?_
        refine J_topi e7 ?_
        refine J_aload_n (pc := 28) dX1_carAt_28 rfl 0 rfl ?_
        refine J_get (c := 1) (ci := 1) (v := .ref 4) (pc := 29) rfl (by decide) rfl lay_X1 2 (by decide) w_115 rfl rfl dX1_carAt_29 ?_
        refine J_iload_n (pc := 32) dX1_carAt_32 rfl 2 rfl ?_
        obtain ⟨v9, e10, hk11, h⟩ := ldi_e h
        refine J_iald (c := 4) (N := 6) (pc := 33) rfl (by decide) hk11 dX1_carAt_33 ?_
        refine J_topi e10 ?_
        refine J_callSN (g := mi_X3_cellsOf) (pc := 34) [.int v3, .int v6, .int v9] [] ms_X3_cellsOf w_341 (k_X3_cellsOf v3 v6 v9 _) rfl rfl ⟨⟨Nat.le_of_ble_eq_true rfl, Nat.le_of_ble_eq_true rfl⟩, Nat.le_of_ble_eq_true rfl, Nat.le_of_ble_eq_true rfl⟩ (Nat.le_of_ble_eq_true rfl) dX1_carAt_34 (Jk_v rfl rfl fun hok12 => ?_)
        refine J_iconst (v := (1 : Int32)) (pc := 37) dX1_carAt_37 (by decide) ?_
        refine J_iload_n (pc := 38) dX1_carAt_38 rfl 1 rfl ?_
        refine J_ishl (pc := 39) dX1_carAt_39 ?_
        refine J_iand (pc := 40) dX1_carAt_40 ?_
        refine J_if_eq (pc := 41) (tgt := 46) dX1_carAt_41 (by decide) (fun c13 => ?_) (fun c13 => ?_)
        · replace h := ifp c13 h
          obtain ⟨v14, e15, h⟩ := bnd_e h
          refine J_iinc (v := v14) (pc := 46) dX1_carAt_46 2 rfl (by rw [e15]; rfl) (Nat.le_of_ble_eq_true rfl) [1, 2, 0] rfl ?_
          refine J_goto (pc := 49) (tgt := 2) dX1_carAt_49 (by decide) ?_
          exact ih _ h
        · replace h := ifn c13 h
          refine J_sub [2] rfl ?_
          exact hK44 _ h
set_option maxHeartbeats 4000000 in
set_option maxRecDepth 100000 in
theorem k_X1_carAt {E : En} (a1 : Int32) (M : Wd) {r : Int32} (h : F_X1_carAt a1 M = some r) : Con E mi_X1_carAt [.ref 1, .int a1] M (.inl (some (.int r))) M := by
  unfold F_X1_carAt at h
  refine Con.of (by decide) rfl (by decide) (fun κ => ?_)
  show J κ E mi_X1_carAt _ 0 0 [(0, .ref 1), (1, .int a1)] M 0 []
  refine J_iconst (v := (0 : Int32)) (pc := 0) dX1_carAt_0 (by decide) ?_
  refine J_istore_n (pc := 1) dX1_carAt_1 rfl (Nat.le_of_ble_eq_true rfl) [1, 2, 0] rfl ?_
  refine kL_X1_carAt_L2 _ _ _ _ (fun v16 h => ?_) (fun h => ?_) fuelN _ h
  · refine J_iload_n (pc := 44) dX1_carAt_44 rfl 0 rfl ?_
    cases h
    exact J_ireturn dX1_carAt_45 rfl rfl rfl rfl rfl
  · refine J_iconst (v := (-1 : Int32)) (pc := 52) dX1_carAt_52 (by decide) ?_
    cases h
    exact J_ireturn dX1_carAt_53 rfl rfl rfl rfl rfl
set_option maxHeartbeats 4000000 in
set_option maxRecDepth 100000 in
theorem kL_X1_takenCells_L7 {κ : Kx} {E : En} {Q : State → Prop} {k n : Nat} {ρ : Type} {r : ρ} (M : Wd) (K51 : Int32 → Option ρ) (hK51 : ∀ (x1 : Int32), K51 x1 = some r → J κ E mi_X1_takenCells Q k n [(1, .int x1)] M 51 []) : ∀ (m : Nat) (x1 : Int32) (x2 : Int32), F_X1_takenCells_L7 M K51 m x1 x2 = some r → J κ E mi_X1_takenCells Q k n [(0, .ref 1), (1, .int x1), (2, .int x2)] M 7 [] := by
  intro m
  induction m with
  | zero => intro x1 x2 h; exact (nomatch (show (none : Option ρ) = some r from h))
  | succ m ih =>
    intro x1 x2 h
    unfold F_X1_takenCells_L7 at h
    refine J_iload_n (pc := 7) dX1_takenCells_7 rfl 2 rfl ?_
    refine J_aload_n (pc := 8) dX1_takenCells_8 rfl 0 rfl ?_
    refine J_get (c := 1) (ci := 1) (v := .int (M.1 1 5)) (pc := 9) rfl (by decide) rfl lay_X1 5 (by decide) w_122 rfl rfl dX1_takenCells_9 ?_
    refine J_icmp_ge (pc := 12) (tgt := 51) dX1_takenCells_12 (by decide) (fun c3 => ?_) (fun c3 => ?_)
    · replace h := ifp c3 h
      refine J_sub [1] rfl ?_
      exact hK51 _ h
    · replace h := ifn c3 h
      refine J_iload_n (pc := 15) dX1_takenCells_15 rfl 2 rfl ?_
      refine J_bipush (v := (6 : Int32)) (pc := 16) dX1_takenCells_16 (by decide) ?_
      refine J_icmp_ge (pc := 18) (tgt := 51) dX1_takenCells_18 (by decide) (fun c4 => ?_) (fun c4 => ?_)
      · replace h := ifp c4 h
        refine J_sub [1] rfl ?_
        exact hK51 _ h
      · replace h := ifn c4 h
        refine J_iload_n (pc := 21) dX1_takenCells_21 rfl 1 rfl ?_
        refine J_aload_n (pc := 22) dX1_takenCells_22 rfl 0 rfl ?_
        refine J_get (c := 1) (ci := 1) (v := .ref 2) (pc := 23) rfl (by decide) rfl lay_X1 0 (by decide) w_109 rfl rfl dX1_takenCells_23 ?_
        refine J_iload_n (pc := 26) dX1_takenCells_26 rfl 2 rfl ?_
        obtain ⟨v5, e6, hk7, h⟩ := ldi_e h
        refine J_iald (c := 2) (N := 6) (pc := 27) rfl (by decide) hk7 dX1_takenCells_27 ?_
        refine J_topi e6 ?_
        refine J_aload_n (pc := 28) dX1_takenCells_28 rfl 0 rfl ?_
        refine J_get (c := 1) (ci := 1) (v := .ref 3) (pc := 29) rfl (by decide) rfl lay_X1 1 (by decide) w_112 rfl rfl dX1_takenCells_29 ?_
        refine J_iload_n (pc := 32) dX1_takenCells_32 rfl 2 rfl ?_
        obtain ⟨v8, e9, hk10, h⟩ := ldi_e h
        refine J_iald (c := 3) (N := 6) (pc := 33) rfl (by decide) hk10 dX1_takenCells_33 ?_
        refine J_topi e9 ?_
        refine J_aload_n (pc := 34) dX1_takenCells_34 rfl 0 rfl ?_
        refine J_get (c := 1) (ci := 1) (v := .ref 4) (pc := 35) rfl (by decide) rfl lay_X1 2 (by decide) w_115 rfl rfl dX1_takenCells_35 ?_
        refine J_iload_n (pc := 38) dX1_takenCells_38 rfl 2 rfl ?_
        obtain ⟨v11, e12, hk13, h⟩ := ldi_e h
        refine J_iald (c := 4) (N := 6) (pc := 39) rfl (by decide) hk13 dX1_takenCells_39 ?_
        refine J_topi e12 ?_
        refine J_callSN (g := mi_X3_cellsOf) (pc := 40) [.int v5, .int v8, .int v11] [.int x1] ms_X3_cellsOf w_341 (k_X3_cellsOf v5 v8 v11 _) rfl rfl ⟨⟨Nat.le_of_ble_eq_true rfl, Nat.le_of_ble_eq_true rfl⟩, Nat.le_of_ble_eq_true rfl, Nat.le_of_ble_eq_true rfl⟩ (Nat.le_of_ble_eq_true rfl) dX1_takenCells_40 (Jk_v rfl rfl fun hok14 => ?_)
        refine J_ior (pc := 43) dX1_takenCells_43 ?_
        obtain ⟨v15, e16, h⟩ := bnd_e h
        refine J_topi e16 ?_
        refine J_istore_n (pc := 44) dX1_takenCells_44 rfl (Nat.le_of_ble_eq_true rfl) [1, 0, 2] rfl ?_
        obtain ⟨v17, e18, h⟩ := bnd_e h
        refine J_iinc (v := v17) (pc := 45) dX1_takenCells_45 2 rfl (by rw [e18]; rfl) (Nat.le_of_ble_eq_true rfl) [1, 2, 0] rfl ?_
        refine J_goto (pc := 48) (tgt := 7) dX1_takenCells_48 (by decide) ?_
        exact ih _ _ h
set_option maxHeartbeats 4000000 in
set_option maxRecDepth 100000 in
theorem k_X1_takenCells {E : En} (M : Wd) {r : Int32} (h : F_X1_takenCells M = some r) : Con E mi_X1_takenCells [.ref 1] M (.inl (some (.int r))) M := by
  unfold F_X1_takenCells at h
  refine Con.of (by decide) rfl (by decide) (fun κ => ?_)
  show J κ E mi_X1_takenCells _ 0 0 [(0, .ref 1)] M 0 []
  refine J_aload_n (pc := 0) dX1_takenCells_0 rfl 0 rfl ?_
  refine J_get (c := 1) (ci := 1) (v := .int (M.1 1 6)) (pc := 1) rfl (by decide) rfl lay_X1 6 (by decide) w_124 rfl rfl dX1_takenCells_1 ?_
  obtain ⟨v1, e2, h⟩ := bnd_e h
  refine J_topi e2 ?_
  refine J_istore_n (pc := 4) dX1_takenCells_4 rfl (Nat.le_of_ble_eq_true rfl) [1, 0] rfl ?_
  refine J_iconst (v := (0 : Int32)) (pc := 5) dX1_takenCells_5 (by decide) ?_
  refine J_istore_n (pc := 6) dX1_takenCells_6 rfl (Nat.le_of_ble_eq_true rfl) [1, 2, 0] rfl ?_
  refine kL_X1_takenCells_L7 _ _ (fun v19 h => ?_) fuelN _ _ h
  refine J_iload_n (pc := 51) dX1_takenCells_51 rfl 0 rfl ?_
  cases h
  exact J_ireturn dX1_takenCells_52 rfl rfl rfl rfl rfl
set_option maxHeartbeats 4000000 in
set_option maxRecDepth 100000 in
theorem k_X1_isRedOut {E : En} (M : Wd) : Con E mi_X1_isRedOut [.ref 1] M (.inl (some (.int (F_X1_isRedOut M)))) M := by
  obtain ⟨r, h⟩ : ∃ r, F_X1_isRedOut M = r := ⟨_, rfl⟩
  rw [h]
  unfold F_X1_isRedOut at h
  refine Con.of (by decide) rfl (by decide) (fun κ => ?_)
  show J κ E mi_X1_isRedOut _ 0 0 [(0, .ref 1)] M 0 []
  refine J_aload_n (pc := 0) dX1_isRedOut_0 rfl 0 rfl ?_
  refine J_get (c := 1) (ci := 1) (v := .int (M.1 1 5)) (pc := 1) rfl (by decide) rfl lay_X1 5 (by decide) w_122 rfl rfl dX1_isRedOut_1 ?_
  refine J_if_le (pc := 4) (tgt := 28) dX1_isRedOut_4 (by decide) (fun c1 => ?_) (fun c1 => ?_)
  · replace h := ifp c1 h
    refine J_iconst (v := (0 : Int32)) (pc := 28) dX1_isRedOut_28 (by decide) ?_
    subst h
    exact J_zreturn dX1_isRedOut_29 rfl (Or.inl rfl) rfl rfl rfl rfl
  · replace h := ifn c1 h
    refine J_aload_n (pc := 7) dX1_isRedOut_7 rfl 0 rfl ?_
    refine J_get (c := 1) (ci := 1) (v := .ref 3) (pc := 8) rfl (by decide) rfl lay_X1 1 (by decide) w_112 rfl rfl dX1_isRedOut_8 ?_
    refine J_iconst (v := (0 : Int32)) (pc := 11) dX1_isRedOut_11 (by decide) ?_
    refine J_iald (c := 3) (N := 6) (pc := 12) rfl (by decide) (vpc rfl) dX1_isRedOut_12 ?_
    refine J_topi (y := (M.1 3 0)) rfl ?_
    refine J_aload_n (pc := 13) dX1_isRedOut_13 rfl 0 rfl ?_
    refine J_get (c := 1) (ci := 1) (v := .ref 4) (pc := 14) rfl (by decide) rfl lay_X1 2 (by decide) w_115 rfl rfl dX1_isRedOut_14 ?_
    refine J_iconst (v := (0 : Int32)) (pc := 17) dX1_isRedOut_17 (by decide) ?_
    refine J_iald (c := 4) (N := 6) (pc := 18) rfl (by decide) (vpc rfl) dX1_isRedOut_18 ?_
    refine J_topi (y := (M.1 4 0)) rfl ?_
    refine J_iadd (pc := 19) dX1_isRedOut_19 ?_
    refine J_iconst (v := (5 : Int32)) (pc := 20) dX1_isRedOut_20 (by decide) ?_
    refine J_icmp_ne (pc := 21) (tgt := 28) dX1_isRedOut_21 (by decide) (fun c2 => ?_) (fun c2 => ?_)
    · replace h := ifn c2 h
      refine J_iconst (v := (0 : Int32)) (pc := 28) dX1_isRedOut_28 (by decide) ?_
      subst h
      exact J_zreturn dX1_isRedOut_29 rfl (Or.inl rfl) rfl rfl rfl rfl
    · replace h := ifp c2 h
      refine J_iconst (v := (1 : Int32)) (pc := 24) dX1_isRedOut_24 (by decide) ?_
      refine J_goto (pc := 25) (tgt := 29) dX1_isRedOut_25 (by decide) ?_
      subst h
      exact J_zreturn dX1_isRedOut_29 rfl (Or.inr rfl) rfl rfl rfl rfl
set_option maxHeartbeats 4000000 in
set_option maxRecDepth 100000 in
theorem k_X3_bitOf {E : En} (a0 : Int32) (a1 : Int32) (M : Wd) : Con E mi_X3_bitOf [.int a0, .int a1] M (.inl (some (.int (F_X3_bitOf a0 a1)))) M := by
  obtain ⟨r, h⟩ : ∃ r, F_X3_bitOf a0 a1 = r := ⟨_, rfl⟩
  rw [h]
  unfold F_X3_bitOf at h
  refine Con.of (by decide) rfl (by decide) (fun κ => ?_)
  show J κ E mi_X3_bitOf _ 0 0 [(0, .int a0), (1, .int a1)] M 0 []
  refine J_iload_n (pc := 0) dX3_bitOf_0 rfl 0 rfl ?_
  refine J_iconst (v := (5 : Int32)) (pc := 1) dX3_bitOf_1 (by decide) ?_
  refine J_icmp_ge (pc := 2) (tgt := 15) dX3_bitOf_2 (by decide) (fun c1 => ?_) (fun c1 => ?_)
  · replace h := ifp c1 h
    refine J_iconst (v := (1 : Int32)) (pc := 15) dX3_bitOf_15 (by decide) ?_
    refine J_iconst (v := (5 : Int32)) (pc := 16) dX3_bitOf_16 (by decide) ?_
    refine J_iload_n (pc := 17) dX3_bitOf_17 rfl 1 rfl ?_
    refine J_imul (pc := 18) dX3_bitOf_18 ?_
    refine J_iload_n (pc := 19) dX3_bitOf_19 rfl 0 rfl ?_
    refine J_iadd (pc := 20) dX3_bitOf_20 ?_
    refine J_iconst (v := (5 : Int32)) (pc := 21) dX3_bitOf_21 (by decide) ?_
    refine J_isub (pc := 22) dX3_bitOf_22 ?_
    refine J_ishl (pc := 23) dX3_bitOf_23 ?_
    subst h
    exact J_ireturn dX3_bitOf_24 rfl rfl rfl rfl rfl
  · replace h := ifn c1 h
    refine J_iconst (v := (1 : Int32)) (pc := 5) dX3_bitOf_5 (by decide) ?_
    refine J_iconst (v := (5 : Int32)) (pc := 6) dX3_bitOf_6 (by decide) ?_
    refine J_iload_n (pc := 7) dX3_bitOf_7 rfl 0 rfl ?_
    refine J_imul (pc := 8) dX3_bitOf_8 ?_
    refine J_iload_n (pc := 9) dX3_bitOf_9 rfl 1 rfl ?_
    refine J_iadd (pc := 10) dX3_bitOf_10 ?_
    refine J_ishl (pc := 11) dX3_bitOf_11 ?_
    refine J_goto (pc := 12) (tgt := 24) dX3_bitOf_12 (by decide) ?_
    subst h
    exact J_ireturn dX3_bitOf_24 rfl rfl rfl rfl rfl
set_option maxHeartbeats 4000000 in
set_option maxRecDepth 100000 in
theorem kL_X1_roomOf_L48 {κ : Kx} {E : En} {Q : State → Prop} {k n : Nat} {ρ : Type} {r : ρ} (a1 : Int32) (a2 : Int32) (a3 : Int32) (M : Wd) (K93 : Int32 → Option ρ) (hK93 : ∀ (x5 : Int32), K93 x5 = some r → J κ E mi_X1_roomOf Q k n [(5, .int x5)] M 93 []) : ∀ (m : Nat) (x4 : Int32) (x5 : Int32), F_X1_roomOf_L48 a1 a2 a3 M K93 m x4 x5 = some r → J κ E mi_X1_roomOf Q k n [(0, .ref 1), (1, .int a1), (2, .int a2), (3, .int a3), (4, .int x4), (5, .int x5)] M 48 [] := by
  intro m
  induction m with
  | zero => intro x4 x5 h; exact (nomatch (show (none : Option ρ) = some r from h))
  | succ m ih =>
    intro x4 x5 h
    unfold F_X1_roomOf_L48 at h
    refine J_iload (pc := 48) dX1_roomOf_48 5 rfl ?_
    refine J_iconst (v := (3 : Int32)) (pc := 50) dX1_roomOf_50 (by decide) ?_
    refine J_icmp_ge (pc := 51) (tgt := 93) dX1_roomOf_51 (by decide) (fun c18 => ?_) (fun c18 => ?_)
    · replace h := ifp c18 h
      refine J_sub [5] rfl ?_
      exact hK93 _ h
    · replace h := ifn c18 h
      refine J_iload (pc := 54) dX1_roomOf_54 4 rfl ?_
      refine J_if_lt (pc := 56) (tgt := 93) dX1_roomOf_56 (by decide) (fun c19 => ?_) (fun c19 => ?_)
      · replace h := ifp c19 h
        refine J_sub [5] rfl ?_
        exact hK93 _ h
      · replace h := ifn c19 h
        refine J_iload (pc := 59) dX1_roomOf_59 4 rfl ?_
        refine J_iconst (v := (5 : Int32)) (pc := 61) dX1_roomOf_61 (by decide) ?_
        refine J_icmp_ge (pc := 62) (tgt := 93) dX1_roomOf_62 (by decide) (fun c20 => ?_) (fun c20 => ?_)
        · replace h := ifp c20 h
          refine J_sub [5] rfl ?_
          exact hK93 _ h
        · replace h := ifn c20 h
          refine J_iload_n (pc := 65) dX1_roomOf_65 rfl 3 rfl ?_
          refine J_aload_n (pc := 66) dX1_roomOf_66 rfl 0 rfl ?_
          refine J_get (c := 1) (ci := 1) (v := .ref 2) (pc := 67) rfl (by decide) rfl lay_X1 0 (by decide) w_109 rfl rfl dX1_roomOf_67 ?_
          refine J_iload_n (pc := 70) dX1_roomOf_70 rfl 1 rfl ?_
          obtain ⟨v21, e22, hk23, h⟩ := ldi_e h
          refine J_iald (c := 2) (N := 6) (pc := 71) rfl (by decide) hk23 dX1_roomOf_71 ?_
          refine J_topi e22 ?_
          refine J_iload (pc := 72) dX1_roomOf_72 4 rfl ?_
          refine J_callSN (g := mi_X3_bitOf) (pc := 74) [.int v21, .int x4] [.int a3] ms_X3_bitOf w_362 (k_X3_bitOf v21 x4 _) rfl rfl ⟨⟨Nat.le_of_ble_eq_true rfl, Nat.le_of_ble_eq_true rfl⟩, Nat.le_of_ble_eq_true rfl, Nat.le_of_ble_eq_true rfl⟩ (Nat.le_of_ble_eq_true rfl) dX1_roomOf_74 (Jk_v rfl rfl fun hok24 => ?_)
          refine J_iand (pc := 77) dX1_roomOf_77 ?_
          refine J_if_ne (pc := 78) (tgt := 93) dX1_roomOf_78 (by decide) (fun c25 => ?_) (fun c25 => ?_)
          · replace h := ifn c25 h
            refine J_sub [5] rfl ?_
            exact hK93 _ h
          · replace h := ifp c25 h
            obtain ⟨v26, e27, h⟩ := bnd_e h
            refine J_iinc (v := v26) (pc := 81) dX1_roomOf_81 5 rfl (by rw [e27]; rfl) (Nat.le_of_ble_eq_true rfl) [1, 2, 3, 4, 5, 0] rfl ?_
            refine J_iload (pc := 84) dX1_roomOf_84 4 rfl ?_
            refine J_iload_n (pc := 86) dX1_roomOf_86 rfl 2 rfl ?_
            refine J_iadd (pc := 87) dX1_roomOf_87 ?_
            obtain ⟨v28, e29, h⟩ := bnd_e h
            refine J_topi e29 ?_
            refine J_istore (pc := 88) dX1_roomOf_88 (Nat.le_of_ble_eq_true rfl) [1, 2, 3, 4, 0, 5] rfl ?_
            refine J_goto (pc := 90) (tgt := 48) dX1_roomOf_90 (by decide) ?_
            exact ih _ _ h
set_option maxHeartbeats 4000000 in
set_option maxRecDepth 100000 in
theorem k_X1_roomOf {E : En} (a1 : Int32) (a2 : Int32) (M : Wd) {r : Int32} (h : F_X1_roomOf a1 a2 M = some r) : Con E mi_X1_roomOf [.ref 1, .int a1, .int a2] M (.inl (some (.int r))) M := by
  unfold F_X1_roomOf at h
  refine Con.of (by decide) rfl (by decide) (fun κ => ?_)
  show J κ E mi_X1_roomOf _ 0 0 [(0, .ref 1), (1, .int a1), (2, .int a2)] M 0 []
  refine J_aload_n (pc := 0) dX1_roomOf_0 rfl 0 rfl ?_
  refine J_iload_n (pc := 1) dX1_roomOf_1 rfl 1 rfl ?_
  refine J_callV (g := mi_X1_hasCar) (ci := 1) (pc := 2) [.int a1] [] mv_X1_hasCar w_268 (k_X1_hasCar a1 _) rfl (by decide) rfl rfl rfl ⟨⟨Nat.le_of_ble_eq_true rfl, Nat.le_of_ble_eq_true rfl⟩, Nat.le_of_ble_eq_true rfl, Nat.le_of_ble_eq_true rfl⟩ (Nat.le_of_ble_eq_true rfl) dX1_roomOf_2 (Jk_v rfl rfl fun hok1 => ?_)
  refine J_if_ne (pc := 5) (tgt := 10) dX1_roomOf_5 (by decide) (fun c2 => ?_) (fun c2 => ?_)
  · replace h := ifn c2 h
    refine J_aload_n (pc := 10) dX1_roomOf_10 rfl 0 rfl ?_
    obtain ⟨v3, hc4, h⟩ := obind_e h
    refine J_callV (g := mi_X1_takenCells) (ci := 1) (pc := 11) [] [] mv_X1_takenCells w_361 (k_X1_takenCells _ hc4) rfl (by decide) rfl rfl rfl ⟨⟨Nat.le_of_ble_eq_true rfl, Nat.le_of_ble_eq_true rfl⟩, Nat.le_of_ble_eq_true rfl, Nat.le_of_ble_eq_true rfl⟩ (Nat.le_of_ble_eq_true rfl) dX1_roomOf_11 (Jk_v rfl rfl fun hok5 => ?_)
    refine J_istore_n (pc := 14) dX1_roomOf_14 rfl (Nat.le_of_ble_eq_true rfl) [1, 2, 3, 0] rfl ?_
    refine J_iload_n (pc := 15) dX1_roomOf_15 rfl 2 rfl ?_
    obtain ⟨v6, hv17, h⟩ := obind_e h
    refine J_join [(0, .ref 1), (1, .int a1), (2, .int a2), (3, .int v3)] M 43 [.int v6] ?_ (fun hJ => ?_)
    · refine J_istore (pc := 43) dX1_roomOf_43 (Nat.le_of_ble_eq_true rfl) [1, 2, 3, 4, 0] rfl ?_
      refine J_iconst (v := (0 : Int32)) (pc := 45) dX1_roomOf_45 (by decide) ?_
      refine J_istore (pc := 46) dX1_roomOf_46 (Nat.le_of_ble_eq_true rfl) [1, 2, 3, 4, 5, 0] rfl ?_
      refine kL_X1_roomOf_L48 _ _ _ _ _ (fun v30 h => ?_) fuelN _ _ h
      refine J_iload (pc := 93) dX1_roomOf_93 0 rfl ?_
      cases h
      exact J_ireturn dX1_roomOf_95 rfl rfl rfl rfl rfl
    · replace h := hv17
      refine J_if_le (pc := 16) (tgt := 35) dX1_roomOf_16 (by decide) (fun c7 => ?_) (fun c7 => ?_)
      · replace h := ifp c7 h
        refine J_aload_n (pc := 35) dX1_roomOf_35 rfl 0 rfl ?_
        refine J_get (c := 1) (ci := 1) (v := .ref 3) (pc := 36) rfl (by decide) rfl lay_X1 1 (by decide) w_112 rfl rfl dX1_roomOf_36 ?_
        refine J_iload_n (pc := 39) dX1_roomOf_39 rfl 1 rfl ?_
        obtain ⟨v8, e9, hk10, h⟩ := ldi_e h
        refine J_iald (c := 3) (N := 6) (pc := 40) rfl (by decide) hk10 dX1_roomOf_40 ?_
        refine J_topi e9 ?_
        refine J_iconst (v := (1 : Int32)) (pc := 41) dX1_roomOf_41 (by decide) ?_
        refine J_isub (pc := 42) dX1_roomOf_42 ?_
        cases h
        exact hJ
      · replace h := ifn c7 h
        refine J_aload_n (pc := 19) dX1_roomOf_19 rfl 0 rfl ?_
        refine J_get (c := 1) (ci := 1) (v := .ref 3) (pc := 20) rfl (by decide) rfl lay_X1 1 (by decide) w_112 rfl rfl dX1_roomOf_20 ?_
        refine J_iload_n (pc := 23) dX1_roomOf_23 rfl 1 rfl ?_
        obtain ⟨v11, e12, hk13, h⟩ := ldi_e h
        refine J_iald (c := 3) (N := 6) (pc := 24) rfl (by decide) hk13 dX1_roomOf_24 ?_
        refine J_topi e12 ?_
        refine J_aload_n (pc := 25) dX1_roomOf_25 rfl 0 rfl ?_
        refine J_get (c := 1) (ci := 1) (v := .ref 4) (pc := 26) rfl (by decide) rfl lay_X1 2 (by decide) w_115 rfl rfl dX1_roomOf_26 ?_
        refine J_iload_n (pc := 29) dX1_roomOf_29 rfl 1 rfl ?_
        obtain ⟨v14, e15, hk16, h⟩ := ldi_e h
        refine J_iald (c := 4) (N := 6) (pc := 30) rfl (by decide) hk16 dX1_roomOf_30 ?_
        refine J_topi e15 ?_
        refine J_iadd (pc := 31) dX1_roomOf_31 ?_
        refine J_goto (pc := 32) (tgt := 43) dX1_roomOf_32 (by decide) ?_
        cases h
        exact hJ
  · replace h := ifp c2 h
    refine J_iconst (v := (0 : Int32)) (pc := 8) dX1_roomOf_8 (by decide) ?_
    cases h
    exact J_ireturn dX1_roomOf_9 rfl rfl rfl rfl rfl
set_option maxHeartbeats 4000000 in
set_option maxRecDepth 100000 in
theorem k_X1_troubleOfEntering {E : En} (a1 : Int32) (a2 : Int32) (a3 : Int32) (M : Wd) {r : Int32} (h : F_X1_troubleOfEntering a1 a2 a3 M = some r) : Con E mi_X1_troubleOfEntering [.ref 1, .int a1, .int a2, .int a3] M (.inl (some (.int r))) M := by
  unfold F_X1_troubleOfEntering at h
  refine Con.of (by decide) rfl (by decide) (fun κ => ?_)
  show J κ E mi_X1_troubleOfEntering _ 0 0 [(0, .ref 1), (1, .int a1), (2, .int a2), (3, .int a3)] M 0 []
  refine J_iload_n (pc := 0) dX1_troubleOfEntering_0 rfl 1 rfl ?_
  refine J_if_lt (pc := 1) (tgt := 10) dX1_troubleOfEntering_1 (by decide) (fun c1 => ?_) (fun c1 => ?_)
  · replace h := ifp c1 h
    refine J_iconst (v := (1 : Int32)) (pc := 10) dX1_troubleOfEntering_10 (by decide) ?_
    cases h
    exact J_ireturn dX1_troubleOfEntering_11 rfl rfl rfl rfl rfl
  · replace h := ifn c1 h
    refine J_iload_n (pc := 4) dX1_troubleOfEntering_4 rfl 1 rfl ?_
    refine J_bipush (v := (10 : Int32)) (pc := 5) dX1_troubleOfEntering_5 (by decide) ?_
    refine J_icmp_lt (pc := 7) (tgt := 12) dX1_troubleOfEntering_7 (by decide) (fun c2 => ?_) (fun c2 => ?_)
    · replace h := ifp c2 h
      refine J_iload_n (pc := 12) dX1_troubleOfEntering_12 rfl 3 rfl ?_
      refine J_iconst (v := (2 : Int32)) (pc := 13) dX1_troubleOfEntering_13 (by decide) ?_
      refine J_icmp_lt (pc := 14) (tgt := 33) dX1_troubleOfEntering_14 (by decide) (fun c3 => ?_) (fun c3 => ?_)
      · replace h := ifp c3 h
        refine J_iconst (v := (2 : Int32)) (pc := 33) dX1_troubleOfEntering_33 (by decide) ?_
        cases h
        exact J_ireturn dX1_troubleOfEntering_34 rfl rfl rfl rfl rfl
      · replace h := ifn c3 h
        refine J_iload_n (pc := 17) dX1_troubleOfEntering_17 rfl 3 rfl ?_
        refine J_iconst (v := (3 : Int32)) (pc := 18) dX1_troubleOfEntering_18 (by decide) ?_
        refine J_icmp_gt (pc := 19) (tgt := 33) dX1_troubleOfEntering_19 (by decide) (fun c4 => ?_) (fun c4 => ?_)
        · replace h := ifp c4 h
          refine J_iconst (v := (2 : Int32)) (pc := 33) dX1_troubleOfEntering_33 (by decide) ?_
          cases h
          exact J_ireturn dX1_troubleOfEntering_34 rfl rfl rfl rfl rfl
        · replace h := ifn c4 h
          refine J_iload_n (pc := 22) dX1_troubleOfEntering_22 rfl 2 rfl ?_
          refine J_if_lt (pc := 23) (tgt := 33) dX1_troubleOfEntering_23 (by decide) (fun c5 => ?_) (fun c5 => ?_)
          · replace h := ifp c5 h
            refine J_iconst (v := (2 : Int32)) (pc := 33) dX1_troubleOfEntering_33 (by decide) ?_
            cases h
            exact J_ireturn dX1_troubleOfEntering_34 rfl rfl rfl rfl rfl
          · replace h := ifn c5 h
            refine J_iload_n (pc := 26) dX1_troubleOfEntering_26 rfl 2 rfl ?_
            refine J_iconst (v := (5 : Int32)) (pc := 27) dX1_troubleOfEntering_27 (by decide) ?_
            refine J_iload_n (pc := 28) dX1_troubleOfEntering_28 rfl 3 rfl ?_
            refine J_isub (pc := 29) dX1_troubleOfEntering_29 ?_
            refine J_icmp_le (pc := 30) (tgt := 35) dX1_troubleOfEntering_30 (by decide) (fun c6 => ?_) (fun c6 => ?_)
            · replace h := ifp c6 h
              refine J_aload_n (pc := 35) dX1_troubleOfEntering_35 rfl 0 rfl ?_
              refine J_get (c := 1) (ci := 1) (v := .int (M.1 1 5)) (pc := 36) rfl (by decide) rfl lay_X1 5 (by decide) w_122 rfl rfl dX1_troubleOfEntering_36 ?_
              obtain ⟨v7, e8, h⟩ := bnd_e h
              have hb11 : isB v7 := by rw [e8]; repeat (first | exact Or.inl rfl | exact Or.inr rfl | assumption | exact okB_b (by assumption) | apply isB_ite)
              refine J_join [(0, .ref 1), (1, .int a1), (2, .int a2), (3, .int a3)] M 52 [.int v7] ?_ (fun hJ => ?_)
              · refine J_istore (pc := 52) dX1_troubleOfEntering_52 (Nat.le_of_ble_eq_true rfl) [1, 2, 3, 4, 0] rfl ?_
                refine J_aload_n (pc := 54) dX1_troubleOfEntering_54 rfl 0 rfl ?_
                obtain ⟨v12, hc13, h⟩ := obind_e h
                refine J_callV (g := mi_X1_takenCells) (ci := 1) (pc := 55) [] [] mv_X1_takenCells w_361 (k_X1_takenCells _ hc13) rfl (by decide) rfl rfl rfl ⟨⟨Nat.le_of_ble_eq_true rfl, Nat.le_of_ble_eq_true rfl⟩, Nat.le_of_ble_eq_true rfl, Nat.le_of_ble_eq_true rfl⟩ (Nat.le_of_ble_eq_true rfl) dX1_troubleOfEntering_55 (Jk_v rfl rfl fun hok14 => ?_)
                refine J_iload_n (pc := 58) dX1_troubleOfEntering_58 rfl 1 rfl ?_
                refine J_iload_n (pc := 59) dX1_troubleOfEntering_59 rfl 2 rfl ?_
                refine J_iload_n (pc := 60) dX1_troubleOfEntering_60 rfl 3 rfl ?_
                refine J_callSN (g := mi_X3_cellsOf) (pc := 61) [.int a1, .int a2, .int a3] [.int v12] ms_X3_cellsOf w_341 (k_X3_cellsOf a1 a2 a3 _) rfl rfl ⟨⟨Nat.le_of_ble_eq_true rfl, Nat.le_of_ble_eq_true rfl⟩, Nat.le_of_ble_eq_true rfl, Nat.le_of_ble_eq_true rfl⟩ (Nat.le_of_ble_eq_true rfl) dX1_troubleOfEntering_61 (Jk_v rfl rfl fun hok15 => ?_)
                refine J_iand (pc := 64) dX1_troubleOfEntering_64 ?_
                obtain ⟨v16, e17, h⟩ := bnd_e h
                have hb19 : isB v16 := by rw [e17]; repeat (first | exact Or.inl rfl | exact Or.inr rfl | assumption | exact okB_b (by assumption) | apply isB_ite)
                refine J_join [(0, .ref 1), (4, .int v7)] M 73 [.int v16] ?_ (fun hJ => ?_)
                · refine J_istore (pc := 73) dX1_troubleOfEntering_73 (Nat.le_of_ble_eq_true rfl) [1, 2, 0] rfl ?_
                  refine J_aload_n (pc := 75) dX1_troubleOfEntering_75 rfl 0 rfl ?_
                  refine J_get (c := 1) (ci := 1) (v := .int (M.1 1 5)) (pc := 76) rfl (by decide) rfl lay_X1 5 (by decide) w_122 rfl rfl dX1_troubleOfEntering_76 ?_
                  refine J_bipush (v := (6 : Int32)) (pc := 79) dX1_troubleOfEntering_79 (by decide) ?_
                  refine J_icmp_ge (pc := 81) (tgt := 94) dX1_troubleOfEntering_81 (by decide) (fun c20 => ?_) (fun c20 => ?_)
                  · replace h := ifp c20 h
                    refine J_iconst (v := (3 : Int32)) (pc := 94) dX1_troubleOfEntering_94 (by decide) ?_
                    refine J_goto (pc := 95) (tgt := 99) dX1_troubleOfEntering_95 (by decide) ?_
                    cases h
                    exact J_ireturn dX1_troubleOfEntering_99 rfl rfl rfl rfl rfl
                  · replace h := ifn c20 h
                    refine J_iload (pc := 84) dX1_troubleOfEntering_84 2 rfl ?_
                    refine J_if_eq (pc := 86) (tgt := 94) dX1_troubleOfEntering_86 (by decide) (fun c21 => ?_) (fun c21 => ?_)
                    · replace h := ifp c21 h
                      refine J_iconst (v := (3 : Int32)) (pc := 94) dX1_troubleOfEntering_94 (by decide) ?_
                      refine J_goto (pc := 95) (tgt := 99) dX1_troubleOfEntering_95 (by decide) ?_
                      cases h
                      exact J_ireturn dX1_troubleOfEntering_99 rfl rfl rfl rfl rfl
                    · replace h := ifn c21 h
                      refine J_iload (pc := 89) dX1_troubleOfEntering_89 1 rfl ?_
                      refine J_if_eq (pc := 91) (tgt := 98) dX1_troubleOfEntering_91 (by decide) (fun c22 => ?_) (fun c22 => ?_)
                      · replace h := ifp c22 h
                        refine J_iconst (v := (0 : Int32)) (pc := 98) dX1_troubleOfEntering_98 (by decide) ?_
                        cases h
                        exact J_ireturn dX1_troubleOfEntering_99 rfl rfl rfl rfl rfl
                      · replace h := ifn c22 h
                        refine J_iconst (v := (3 : Int32)) (pc := 94) dX1_troubleOfEntering_94 (by decide) ?_
                        refine J_goto (pc := 95) (tgt := 99) dX1_troubleOfEntering_95 (by decide) ?_
                        cases h
                        exact J_ireturn dX1_troubleOfEntering_99 rfl rfl rfl rfl rfl
                · refine J_if_ne (pc := 65) (tgt := 72) dX1_troubleOfEntering_65 (by decide) (fun c18 => ?_) (fun c18 => ?_)
                  · refine J_iconst (v := (0 : Int32)) (pc := 72) dX1_troubleOfEntering_72 (by decide) ?_
                    refine J_sub [0, 4] rfl ?_
                    refine J_topi (by rw [e17, if_neg c18]) ?_
                    exact hJ
                  · refine J_iconst (v := (1 : Int32)) (pc := 68) dX1_troubleOfEntering_68 (by decide) ?_
                    refine J_goto (pc := 69) (tgt := 73) dX1_troubleOfEntering_69 (by decide) ?_
                    refine J_sub [0, 4] rfl ?_
                    refine J_topi (by rw [e17, if_pos c18]) ?_
                    exact hJ
              · refine J_if_ne (pc := 39) (tgt := 51) dX1_troubleOfEntering_39 (by decide) (fun c9 => ?_) (fun c9 => ?_)
                · refine J_iconst (v := (0 : Int32)) (pc := 51) dX1_troubleOfEntering_51 (by decide) ?_
                  refine J_topi (by rw [e8, if_neg c9]) ?_
                  exact hJ
                · refine J_iload_n (pc := 42) dX1_troubleOfEntering_42 rfl 1 rfl ?_
                  refine J_iconst (v := (5 : Int32)) (pc := 43) dX1_troubleOfEntering_43 (by decide) ?_
                  refine J_icmp_lt (pc := 44) (tgt := 51) dX1_troubleOfEntering_44 (by decide) (fun c10 => ?_) (fun c10 => ?_)
                  · refine J_iconst (v := (0 : Int32)) (pc := 51) dX1_troubleOfEntering_51 (by decide) ?_
                    refine J_topi (by rw [e8, if_pos c9, if_pos c10]) ?_
                    exact hJ
                  · refine J_iconst (v := (1 : Int32)) (pc := 47) dX1_troubleOfEntering_47 (by decide) ?_
                    refine J_goto (pc := 48) (tgt := 52) dX1_troubleOfEntering_48 (by decide) ?_
                    refine J_topi (by rw [e8, if_pos c9, if_neg c10]) ?_
                    exact hJ
            · replace h := ifn c6 h
              refine J_iconst (v := (2 : Int32)) (pc := 33) dX1_troubleOfEntering_33 (by decide) ?_
              cases h
              exact J_ireturn dX1_troubleOfEntering_34 rfl rfl rfl rfl rfl
    · replace h := ifn c2 h
      refine J_iconst (v := (1 : Int32)) (pc := 10) dX1_troubleOfEntering_10 (by decide) ?_
      cases h
      exact J_ireturn dX1_troubleOfEntering_11 rfl rfl rfl rfl rfl
set_option maxHeartbeats 4000000 in
set_option maxRecDepth 100000 in
theorem k_X1_enter {E : En} (a1 : Int32) (a2 : Int32) (a3 : Int32) (M : Wd) {r : Int32} {M' : Wd} (h : F_X1_enter a1 a2 a3 M = some (r, M')) : Con E mi_X1_enter [.ref 1, .int a1, .int a2, .int a3] M (.inl (some (.int r))) M' := by
  unfold F_X1_enter at h
  refine Con.of (by decide) rfl (by decide) (fun κ => ?_)
  show J κ E mi_X1_enter _ 0 0 [(0, .ref 1), (1, .int a1), (2, .int a2), (3, .int a3)] M 0 []
  refine J_aload_n (pc := 0) dX1_enter_0 rfl 0 rfl ?_
  refine J_get (c := 1) (ci := 1) (v := .int (M.1 1 5)) (pc := 1) rfl (by decide) rfl lay_X1 5 (by decide) w_122 rfl rfl dX1_enter_1 ?_
  obtain ⟨v1, e2, h⟩ := bnd_e h
  refine J_topi e2 ?_
  refine J_istore (pc := 4) dX1_enter_4 (Nat.le_of_ble_eq_true rfl) [1, 2, 3, 4, 0] rfl ?_
  refine J_iload (pc := 6) dX1_enter_6 4 rfl ?_
  obtain ⟨M3, hv9, h⟩ := obind_e h
  refine J_join [(0, .ref 1), (4, .int v1)] M3 52 [] ?_ (fun hJ => ?_)
  · refine J_aload_n (pc := 52) dX1_enter_52 rfl 0 rfl ?_
    refine J_iconst (v := (0 : Int32)) (pc := 53) dX1_enter_53 (by decide) ?_
    refine J_put (c := 1) (ci := 1) (M' := (upI M3 1 7 (0 : Int32))) (pc := 54) rfl (by decide) rfl lay_X1 tyX1 tyX1_ok nmX1 7 (by decide) w_126 rfl rfl rfl rfl (Nat.le_of_ble_eq_true rfl) rfl jc_ne_I dX1_enter_54 ?_
    refine J_iload (pc := 57) dX1_enter_57 1 rfl ?_
    cases h
    exact J_ireturn dX1_enter_59 rfl rfl rfl rfl rfl
  · replace h := hv9
    refine J_if_lt (pc := 8) (tgt := 52) dX1_enter_8 (by decide) (fun c4 => ?_) (fun c4 => ?_)
    · replace h := ifp c4 h
      cases h
      refine J_sub [0, 4] rfl ?_
      exact hJ
    · replace h := ifn c4 h
      refine J_iload (pc := 11) dX1_enter_11 4 rfl ?_
      refine J_bipush (v := (6 : Int32)) (pc := 13) dX1_enter_13 (by decide) ?_
      refine J_icmp_ge (pc := 15) (tgt := 52) dX1_enter_15 (by decide) (fun c5 => ?_) (fun c5 => ?_)
      · replace h := ifp c5 h
        cases h
        refine J_sub [0, 4] rfl ?_
        exact hJ
      · replace h := ifn c5 h
        refine J_aload_n (pc := 18) dX1_enter_18 rfl 0 rfl ?_
        refine J_get (c := 1) (ci := 1) (v := .ref 2) (pc := 19) rfl (by decide) rfl lay_X1 0 (by decide) w_109 rfl rfl dX1_enter_19 ?_
        refine J_iload (pc := 22) dX1_enter_22 4 rfl ?_
        refine J_iload_n (pc := 24) dX1_enter_24 rfl 1 rfl ?_
        obtain ⟨hk6, h⟩ := inb_e h
        refine J_iast (c := 2) (N := 6) (pc := 25) (fun _ => rfl) (by decide) hk6 dX1_enter_25 ?_
        refine J_aload_n (pc := 26) dX1_enter_26 rfl 0 rfl ?_
        refine J_get (c := 1) (ci := 1) (v := .ref 3) (pc := 27) rfl (by decide) rfl lay_X1 1 (by decide) w_112 rfl rfl dX1_enter_27 ?_
        refine J_iload (pc := 30) dX1_enter_30 4 rfl ?_
        refine J_iload_n (pc := 32) dX1_enter_32 rfl 2 rfl ?_
        obtain ⟨hk7, h⟩ := inb_e h
        refine J_iast (c := 3) (N := 6) (pc := 33) (fun _ => rfl) (by decide) hk7 dX1_enter_33 ?_
        refine J_aload_n (pc := 34) dX1_enter_34 rfl 0 rfl ?_
        refine J_get (c := 1) (ci := 1) (v := .ref 4) (pc := 35) rfl (by decide) rfl lay_X1 2 (by decide) w_115 rfl rfl dX1_enter_35 ?_
        refine J_iload (pc := 38) dX1_enter_38 4 rfl ?_
        refine J_iload_n (pc := 40) dX1_enter_40 rfl 3 rfl ?_
        obtain ⟨hk8, h⟩ := inb_e h
        refine J_iast (c := 4) (N := 6) (pc := 41) (fun _ => rfl) (by decide) hk8 dX1_enter_41 ?_
        refine J_aload_n (pc := 42) dX1_enter_42 rfl 0 rfl ?_
        refine J_dup (pc := 43) dX1_enter_43 rfl ?_
        refine J_get (c := 1) (ci := 1) (v := .int (M.1 1 5)) (pc := 44) rfl (by decide) rfl lay_X1 5 (by decide) w_122 rfl rfl dX1_enter_44 ?_
        refine J_iconst (v := (1 : Int32)) (pc := 47) dX1_enter_47 (by decide) ?_
        refine J_iadd (pc := 48) dX1_enter_48 ?_
        refine J_put (c := 1) (ci := 1) (M' := (upI (upI (upI (upI M 2 v1.toNatClampNeg a1) 3 v1.toNatClampNeg a2) 4 v1.toNatClampNeg a3) 1 5 ((M.1 1 5) + (1 : Int32)))) (pc := 49) rfl (by decide) rfl lay_X1 tyX1 tyX1_ok nmX1 5 (by decide) w_122 rfl rfl rfl rfl (Nat.le_of_ble_eq_true rfl) rfl jc_ne_I dX1_enter_49 ?_
        cases h
        refine J_sub [0, 4] rfl ?_
        exact hJ
set_option maxHeartbeats 4000000 in
set_option maxRecDepth 100000 in
theorem k_X1_leave {E : En} (M : Wd) {r : Int32} {M' : Wd} (h : F_X1_leave M = some (r, M')) : Con E mi_X1_leave [.ref 1] M (.inl (some (.int r))) M' := by
  unfold F_X1_leave at h
  refine Con.of (by decide) rfl (by decide) (fun κ => ?_)
  show J κ E mi_X1_leave _ 0 0 [(0, .ref 1)] M 0 []
  refine J_aload_n (pc := 0) dX1_leave_0 rfl 0 rfl ?_
  refine J_dup (pc := 1) dX1_leave_1 rfl ?_
  refine J_get (c := 1) (ci := 1) (v := .int (M.1 1 5)) (pc := 2) rfl (by decide) rfl lay_X1 5 (by decide) w_122 rfl rfl dX1_leave_2 ?_
  refine J_iconst (v := (1 : Int32)) (pc := 5) dX1_leave_5 (by decide) ?_
  refine J_isub (pc := 6) dX1_leave_6 ?_
  refine J_put (c := 1) (ci := 1) (M' := (upI M 1 5 ((M.1 1 5) - (1 : Int32)))) (pc := 7) rfl (by decide) rfl lay_X1 tyX1 tyX1_ok nmX1 5 (by decide) w_122 rfl rfl rfl rfl (Nat.le_of_ble_eq_true rfl) rfl jc_ne_I dX1_leave_7 ?_
  refine J_aload_n (pc := 10) dX1_leave_10 rfl 0 rfl ?_
  refine J_iconst (v := (0 : Int32)) (pc := 11) dX1_leave_11 (by decide) ?_
  refine J_put (c := 1) (ci := 1) (M' := (upI (upI M 1 5 ((M.1 1 5) - (1 : Int32))) 1 7 (0 : Int32))) (pc := 12) rfl (by decide) rfl lay_X1 tyX1 tyX1_ok nmX1 7 (by decide) w_126 rfl rfl rfl rfl (Nat.le_of_ble_eq_true rfl) rfl jc_ne_I dX1_leave_12 ?_
  refine J_aload_n (pc := 15) dX1_leave_15 rfl 0 rfl ?_
  refine J_get (c := 1) (ci := 1) (v := .int ((M.1 1 5) - (1 : Int32))) (pc := 16) rfl (by decide) rfl lay_X1 5 (by decide) w_122 rfl rfl dX1_leave_16 ?_
  cases h
  exact J_ireturn dX1_leave_19 rfl rfl rfl rfl rfl
set_option maxHeartbeats 4000000 in
set_option maxRecDepth 100000 in
theorem k_J6_bitCount_0f7a4 {E : En} (a0 : Int32) (M : Wd) : Con E mi_J6_bitCount_0f7a4 [.int a0] M (.inl (some (.int (F_J6_bitCount_0f7a4 a0)))) M := by
  obtain ⟨r, h⟩ : ∃ r, F_J6_bitCount_0f7a4 a0 = r := ⟨_, rfl⟩
  rw [h]
  unfold F_J6_bitCount_0f7a4 at h
  refine Con.of (by decide) rfl (by decide) (fun κ => ?_)
  show J κ E mi_J6_bitCount_0f7a4 _ 0 0 [(0, .int a0)] M 0 []
  refine J_iload_n (pc := 0) dJ6_bitCount_0f7a4_0 rfl 0 rfl ?_
  refine J_iload_n (pc := 1) dJ6_bitCount_0f7a4_1 rfl 0 rfl ?_
  refine J_iconst (v := (1 : Int32)) (pc := 2) dJ6_bitCount_0f7a4_2 (by decide) ?_
  refine J_iushr (pc := 3) dJ6_bitCount_0f7a4_3 rfl ?_
  refine J_ldcw (pc := 4) w_330 dJ6_bitCount_0f7a4_4 ?_
  refine J_iand (pc := 7) dJ6_bitCount_0f7a4_7 ?_
  refine J_isub (pc := 8) dJ6_bitCount_0f7a4_8 ?_
  obtain ⟨v1, e2, h⟩ := bnd_e h
  refine J_topi e2 ?_
  refine J_istore_n (pc := 9) dJ6_bitCount_0f7a4_9 rfl (Nat.le_of_ble_eq_true rfl) [0] rfl ?_
  refine J_iload_n (pc := 10) dJ6_bitCount_0f7a4_10 rfl 0 rfl ?_
  refine J_ldcw (pc := 11) w_331 dJ6_bitCount_0f7a4_11 ?_
  refine J_iand (pc := 14) dJ6_bitCount_0f7a4_14 ?_
  refine J_iload_n (pc := 15) dJ6_bitCount_0f7a4_15 rfl 0 rfl ?_
  refine J_iconst (v := (2 : Int32)) (pc := 16) dJ6_bitCount_0f7a4_16 (by decide) ?_
  refine J_iushr (pc := 17) dJ6_bitCount_0f7a4_17 rfl ?_
  refine J_ldcw (pc := 18) w_331 dJ6_bitCount_0f7a4_18 ?_
  refine J_iand (pc := 21) dJ6_bitCount_0f7a4_21 ?_
  refine J_iadd (pc := 22) dJ6_bitCount_0f7a4_22 ?_
  obtain ⟨v3, e4, h⟩ := bnd_e h
  refine J_topi e4 ?_
  refine J_istore_n (pc := 23) dJ6_bitCount_0f7a4_23 rfl (Nat.le_of_ble_eq_true rfl) [0] rfl ?_
  refine J_iload_n (pc := 24) dJ6_bitCount_0f7a4_24 rfl 0 rfl ?_
  refine J_iload_n (pc := 25) dJ6_bitCount_0f7a4_25 rfl 0 rfl ?_
  refine J_iconst (v := (4 : Int32)) (pc := 26) dJ6_bitCount_0f7a4_26 (by decide) ?_
  refine J_iushr (pc := 27) dJ6_bitCount_0f7a4_27 rfl ?_
  refine J_iadd (pc := 28) dJ6_bitCount_0f7a4_28 ?_
  refine J_ldcw (pc := 29) w_332 dJ6_bitCount_0f7a4_29 ?_
  refine J_iand (pc := 32) dJ6_bitCount_0f7a4_32 ?_
  obtain ⟨v5, e6, h⟩ := bnd_e h
  refine J_topi e6 ?_
  refine J_istore_n (pc := 33) dJ6_bitCount_0f7a4_33 rfl (Nat.le_of_ble_eq_true rfl) [0] rfl ?_
  refine J_iload_n (pc := 34) dJ6_bitCount_0f7a4_34 rfl 0 rfl ?_
  refine J_iload_n (pc := 35) dJ6_bitCount_0f7a4_35 rfl 0 rfl ?_
  refine J_bipush (v := (8 : Int32)) (pc := 36) dJ6_bitCount_0f7a4_36 (by decide) ?_
  refine J_iushr (pc := 38) dJ6_bitCount_0f7a4_38 rfl ?_
  refine J_iadd (pc := 39) dJ6_bitCount_0f7a4_39 ?_
  obtain ⟨v7, e8, h⟩ := bnd_e h
  refine J_topi e8 ?_
  refine J_istore_n (pc := 40) dJ6_bitCount_0f7a4_40 rfl (Nat.le_of_ble_eq_true rfl) [0] rfl ?_
  refine J_iload_n (pc := 41) dJ6_bitCount_0f7a4_41 rfl 0 rfl ?_
  refine J_iload_n (pc := 42) dJ6_bitCount_0f7a4_42 rfl 0 rfl ?_
  refine J_bipush (v := (16 : Int32)) (pc := 43) dJ6_bitCount_0f7a4_43 (by decide) ?_
  refine J_iushr (pc := 45) dJ6_bitCount_0f7a4_45 rfl ?_
  refine J_iadd (pc := 46) dJ6_bitCount_0f7a4_46 ?_
  obtain ⟨v9, e10, h⟩ := bnd_e h
  refine J_topi e10 ?_
  refine J_istore_n (pc := 47) dJ6_bitCount_0f7a4_47 rfl (Nat.le_of_ble_eq_true rfl) [0] rfl ?_
  refine J_iload_n (pc := 48) dJ6_bitCount_0f7a4_48 rfl 0 rfl ?_
  refine J_bipush (v := (63 : Int32)) (pc := 49) dJ6_bitCount_0f7a4_49 (by decide) ?_
  refine J_iand (pc := 51) dJ6_bitCount_0f7a4_51 ?_
  subst h
  exact J_ireturn dJ6_bitCount_0f7a4_52 rfl rfl rfl rfl rfl
set_option maxHeartbeats 4000000 in
set_option maxRecDepth 100000 in
theorem k_X3_isCell {E : En} (a0 : Int32) (M : Wd) : Con E mi_X3_isCell [.int a0] M (.inl (some (.int (F_X3_isCell a0)))) M := by
  obtain ⟨r, h⟩ : ∃ r, F_X3_isCell a0 = r := ⟨_, rfl⟩
  rw [h]
  unfold F_X3_isCell at h
  refine Con.of (by decide) rfl (by decide) (fun κ => ?_)
  show J κ E mi_X3_isCell _ 0 0 [(0, .int a0)] M 0 []
  refine J_iload_n (pc := 0) dX3_isCell_0 rfl 0 rfl ?_
  refine J_if_lt (pc := 1) (tgt := 14) dX3_isCell_1 (by decide) (fun c1 => ?_) (fun c1 => ?_)
  · replace h := ifp c1 h
    refine J_iconst (v := (0 : Int32)) (pc := 14) dX3_isCell_14 (by decide) ?_
    subst h
    exact J_zreturn dX3_isCell_15 rfl (Or.inl rfl) rfl rfl rfl rfl
  · replace h := ifn c1 h
    refine J_iload_n (pc := 4) dX3_isCell_4 rfl 0 rfl ?_
    refine J_bipush (v := (25 : Int32)) (pc := 5) dX3_isCell_5 (by decide) ?_
    refine J_icmp_ge (pc := 7) (tgt := 14) dX3_isCell_7 (by decide) (fun c2 => ?_) (fun c2 => ?_)
    · replace h := ifp c2 h
      refine J_iconst (v := (0 : Int32)) (pc := 14) dX3_isCell_14 (by decide) ?_
      subst h
      exact J_zreturn dX3_isCell_15 rfl (Or.inl rfl) rfl rfl rfl rfl
    · replace h := ifn c2 h
      refine J_iconst (v := (1 : Int32)) (pc := 10) dX3_isCell_10 (by decide) ?_
      refine J_goto (pc := 11) (tgt := 15) dX3_isCell_11 (by decide) ?_
      subst h
      exact J_zreturn dX3_isCell_15 rfl (Or.inr rfl) rfl rfl rfl rfl
set_option maxHeartbeats 4000000 in
set_option maxRecDepth 100000 in
theorem k_X1_troubleOfWall {E : En} (a1 : Int32) (M : Wd) {r : Int32} (h : F_X1_troubleOfWall a1 M = some r) : Con E mi_X1_troubleOfWall [.ref 1, .int a1] M (.inl (some (.int r))) M := by
  unfold F_X1_troubleOfWall at h
  refine Con.of (by decide) rfl (by decide) (fun κ => ?_)
  show J κ E mi_X1_troubleOfWall _ 0 0 [(0, .ref 1), (1, .int a1)] M 0 []
  refine J_iload_n (pc := 0) dX1_troubleOfWall_0 rfl 1 rfl ?_
  refine J_callSN (g := mi_X3_isCell) (pc := 1) [.int a1] [] ms_X3_isCell w_759 (k_X3_isCell a1 _) rfl rfl ⟨⟨Nat.le_of_ble_eq_true rfl, Nat.le_of_ble_eq_true rfl⟩, Nat.le_of_ble_eq_true rfl, Nat.le_of_ble_eq_true rfl⟩ (Nat.le_of_ble_eq_true rfl) dX1_troubleOfWall_1 (Jk_v rfl rfl fun hok1 => ?_)
  refine J_if_ne (pc := 4) (tgt := 9) dX1_troubleOfWall_4 (by decide) (fun c2 => ?_) (fun c2 => ?_)
  · replace h := ifn c2 h
    refine J_aload_n (pc := 9) dX1_troubleOfWall_9 rfl 0 rfl ?_
    refine J_iload_n (pc := 10) dX1_troubleOfWall_10 rfl 1 rfl ?_
    refine J_callV (g := mi_X1_hasWallAt) (ci := 1) (pc := 11) [.int a1] [] mv_X1_hasWallAt w_762 (k_X1_hasWallAt a1 _) rfl (by decide) rfl rfl rfl ⟨⟨Nat.le_of_ble_eq_true rfl, Nat.le_of_ble_eq_true rfl⟩, Nat.le_of_ble_eq_true rfl, Nat.le_of_ble_eq_true rfl⟩ (Nat.le_of_ble_eq_true rfl) dX1_troubleOfWall_11 (Jk_v rfl rfl fun hok3 => ?_)
    obtain ⟨v4, e5, h⟩ := bnd_e h
    have hb9 : isB v4 := by rw [e5]; repeat (first | exact Or.inl rfl | exact Or.inr rfl | assumption | exact okB_b (by assumption) | apply isB_ite)
    refine J_join [(0, .ref 1), (1, .int a1)] M 33 [.int v4] ?_ (fun hJ => ?_)
    · refine J_istore_n (pc := 33) dX1_troubleOfWall_33 rfl (Nat.le_of_ble_eq_true rfl) [1, 2, 0] rfl ?_
      refine J_aload_n (pc := 34) dX1_troubleOfWall_34 rfl 0 rfl ?_
      refine J_iload_n (pc := 35) dX1_troubleOfWall_35 rfl 1 rfl ?_
      obtain ⟨v10, hc11, h⟩ := obind_e h
      refine J_callV (g := mi_X1_carAt) (ci := 1) (pc := 36) [.int a1] [] mv_X1_carAt w_764 (k_X1_carAt a1 _ hc11) rfl (by decide) rfl rfl rfl ⟨⟨Nat.le_of_ble_eq_true rfl, Nat.le_of_ble_eq_true rfl⟩, Nat.le_of_ble_eq_true rfl, Nat.le_of_ble_eq_true rfl⟩ (Nat.le_of_ble_eq_true rfl) dX1_troubleOfWall_36 (Jk_v rfl rfl fun hok12 => ?_)
      refine J_if_ge (pc := 39) (tgt := 46) dX1_troubleOfWall_39 (by decide) (fun c13 => ?_) (fun c13 => ?_)
      · replace h := ifp c13 h
        refine J_iconst (v := (3 : Int32)) (pc := 46) dX1_troubleOfWall_46 (by decide) ?_
        refine J_goto (pc := 47) (tgt := 51) dX1_troubleOfWall_47 (by decide) ?_
        cases h
        exact J_ireturn dX1_troubleOfWall_51 rfl rfl rfl rfl rfl
      · replace h := ifn c13 h
        refine J_iload_n (pc := 42) dX1_troubleOfWall_42 rfl 2 rfl ?_
        refine J_if_eq (pc := 43) (tgt := 50) dX1_troubleOfWall_43 (by decide) (fun c14 => ?_) (fun c14 => ?_)
        · replace h := ifp c14 h
          refine J_iconst (v := (0 : Int32)) (pc := 50) dX1_troubleOfWall_50 (by decide) ?_
          cases h
          exact J_ireturn dX1_troubleOfWall_51 rfl rfl rfl rfl rfl
        · replace h := ifn c14 h
          refine J_iconst (v := (3 : Int32)) (pc := 46) dX1_troubleOfWall_46 (by decide) ?_
          refine J_goto (pc := 47) (tgt := 51) dX1_troubleOfWall_47 (by decide) ?_
          cases h
          exact J_ireturn dX1_troubleOfWall_51 rfl rfl rfl rfl rfl
    · refine J_if_ne (pc := 14) (tgt := 32) dX1_troubleOfWall_14 (by decide) (fun c6 => ?_) (fun c6 => ?_)
      · refine J_iconst (v := (0 : Int32)) (pc := 32) dX1_troubleOfWall_32 (by decide) ?_
        refine J_topi (by rw [e5, if_neg c6]) ?_
        exact hJ
      · refine J_aload_n (pc := 17) dX1_troubleOfWall_17 rfl 0 rfl ?_
        refine J_get (c := 1) (ci := 1) (v := .int (M.1 1 6)) (pc := 18) rfl (by decide) rfl lay_X1 6 (by decide) w_124 rfl rfl dX1_troubleOfWall_18 ?_
        refine J_callS (g := mi_J6_bitCount_0f7a4) (pc := 21) [.int (M.1 1 6)] [] ms_J6_bitCount_0f7a4 w_763 (k_J6_bitCount_0f7a4 (M.1 1 6) _) rfl rfl ⟨⟨Nat.le_of_ble_eq_true rfl, Nat.le_of_ble_eq_true rfl⟩, Nat.le_of_ble_eq_true rfl, Nat.le_of_ble_eq_true rfl⟩ (Nat.le_of_ble_eq_true rfl) dX1_troubleOfWall_21 (Jk_v rfl rfl fun hok7 => ?_)
        refine J_iconst (v := (4 : Int32)) (pc := 24) dX1_troubleOfWall_24 (by decide) ?_
        refine J_icmp_lt (pc := 25) (tgt := 32) dX1_troubleOfWall_25 (by decide) (fun c8 => ?_) (fun c8 => ?_)
        · refine J_iconst (v := (0 : Int32)) (pc := 32) dX1_troubleOfWall_32 (by decide) ?_
          refine J_topi (by rw [e5, if_pos c6, if_pos c8]) ?_
          exact hJ
        · refine J_iconst (v := (1 : Int32)) (pc := 28) dX1_troubleOfWall_28 (by decide) ?_
          refine J_goto (pc := 29) (tgt := 33) dX1_troubleOfWall_29 (by decide) ?_
          refine J_topi (by rw [e5, if_pos c6, if_neg c8]) ?_
          exact hJ
  · replace h := ifp c2 h
    refine J_iconst (v := (1 : Int32)) (pc := 7) dX1_troubleOfWall_7 (by decide) ?_
    cases h
    exact J_ireturn dX1_troubleOfWall_8 rfl rfl rfl rfl rfl
set_option maxHeartbeats 4000000 in
set_option maxRecDepth 100000 in
theorem k_X1_turnWall {E : En} (a1 : Int32) (M : Wd) {r : Int32} {M' : Wd} (h : F_X1_turnWall a1 M = some (r, M')) : Con E mi_X1_turnWall [.ref 1, .int a1] M (.inl (some (.int r))) M' := by
  unfold F_X1_turnWall at h
  refine Con.of (by decide) rfl (by decide) (fun κ => ?_)
  show J κ E mi_X1_turnWall _ 0 0 [(0, .ref 1), (1, .int a1)] M 0 []
  refine J_aload_n (pc := 0) dX1_turnWall_0 rfl 0 rfl ?_
  refine J_dup (pc := 1) dX1_turnWall_1 rfl ?_
  refine J_get (c := 1) (ci := 1) (v := .int (M.1 1 6)) (pc := 2) rfl (by decide) rfl lay_X1 6 (by decide) w_124 rfl rfl dX1_turnWall_2 ?_
  refine J_iconst (v := (1 : Int32)) (pc := 5) dX1_turnWall_5 (by decide) ?_
  refine J_iload_n (pc := 6) dX1_turnWall_6 rfl 1 rfl ?_
  refine J_ishl (pc := 7) dX1_turnWall_7 ?_
  refine J_ixor (pc := 8) dX1_turnWall_8 ?_
  refine J_put (c := 1) (ci := 1) (M' := (upI M 1 6 ((M.1 1 6) ^^^ ((1 : Int32) <<< (a1 &&& 31))))) (pc := 9) rfl (by decide) rfl lay_X1 tyX1 tyX1_ok nmX1 6 (by decide) w_124 rfl rfl rfl rfl (Nat.le_of_ble_eq_true rfl) rfl jc_ne_I dX1_turnWall_9 ?_
  refine J_aload_n (pc := 12) dX1_turnWall_12 rfl 0 rfl ?_
  refine J_iconst (v := (0 : Int32)) (pc := 13) dX1_turnWall_13 (by decide) ?_
  refine J_put (c := 1) (ci := 1) (M' := (upI (upI M 1 6 ((M.1 1 6) ^^^ ((1 : Int32) <<< (a1 &&& 31)))) 1 7 (0 : Int32))) (pc := 14) rfl (by decide) rfl lay_X1 tyX1 tyX1_ok nmX1 7 (by decide) w_126 rfl rfl rfl rfl (Nat.le_of_ble_eq_true rfl) rfl jc_ne_I dX1_turnWall_14 ?_
  refine J_aload_n (pc := 17) dX1_turnWall_17 rfl 0 rfl ?_
  refine J_iload_n (pc := 18) dX1_turnWall_18 rfl 1 rfl ?_
  refine J_callV (g := mi_X1_hasWallAt) (ci := 1) (pc := 19) [.int a1] [] mv_X1_hasWallAt w_762 (k_X1_hasWallAt a1 _) rfl (by decide) rfl rfl rfl ⟨⟨Nat.le_of_ble_eq_true rfl, Nat.le_of_ble_eq_true rfl⟩, Nat.le_of_ble_eq_true rfl, Nat.le_of_ble_eq_true rfl⟩ (Nat.le_of_ble_eq_true rfl) dX1_turnWall_19 (Jk_v rfl rfl fun hok1 => ?_)
  cases h
  exact J_zreturn dX1_turnWall_22 rfl (okB_b hok1) rfl rfl rfl rfl
set_option maxHeartbeats 4000000 in
set_option maxRecDepth 100000 in
theorem k_X1_troubleOfSliding {E : En} (a1 : Int32) (a2 : Int32) (M : Wd) {r : Int32} (h : F_X1_troubleOfSliding a1 a2 M = some r) : Con E mi_X1_troubleOfSliding [.ref 1, .int a1, .int a2] M (.inl (some (.int r))) M := by
  unfold F_X1_troubleOfSliding at h
  refine Con.of (by decide) rfl (by decide) (fun κ => ?_)
  show J κ E mi_X1_troubleOfSliding _ 0 0 [(0, .ref 1), (1, .int a1), (2, .int a2)] M 0 []
  refine J_aload_n (pc := 0) dX1_troubleOfSliding_0 rfl 0 rfl ?_
  refine J_iload_n (pc := 1) dX1_troubleOfSliding_1 rfl 1 rfl ?_
  refine J_callV (g := mi_X1_hasCar) (ci := 1) (pc := 2) [.int a1] [] mv_X1_hasCar w_268 (k_X1_hasCar a1 _) rfl (by decide) rfl rfl rfl ⟨⟨Nat.le_of_ble_eq_true rfl, Nat.le_of_ble_eq_true rfl⟩, Nat.le_of_ble_eq_true rfl, Nat.le_of_ble_eq_true rfl⟩ (Nat.le_of_ble_eq_true rfl) dX1_troubleOfSliding_2 (Jk_v rfl rfl fun hok1 => ?_)
  refine J_if_ne (pc := 5) (tgt := 10) dX1_troubleOfSliding_5 (by decide) (fun c2 => ?_) (fun c2 => ?_)
  · replace h := ifn c2 h
    refine J_iload_n (pc := 10) dX1_troubleOfSliding_10 rfl 2 rfl ?_
    refine J_bipush (v := (-3 : Int32)) (pc := 11) dX1_troubleOfSliding_11 (by decide) ?_
    refine J_icmp_lt (pc := 13) (tgt := 25) dX1_troubleOfSliding_13 (by decide) (fun c3 => ?_) (fun c3 => ?_)
    · replace h := ifp c3 h
      refine J_iconst (v := (2 : Int32)) (pc := 25) dX1_troubleOfSliding_25 (by decide) ?_
      cases h
      exact J_ireturn dX1_troubleOfSliding_26 rfl rfl rfl rfl rfl
    · replace h := ifn c3 h
      refine J_iload_n (pc := 16) dX1_troubleOfSliding_16 rfl 2 rfl ?_
      refine J_iconst (v := (3 : Int32)) (pc := 17) dX1_troubleOfSliding_17 (by decide) ?_
      refine J_icmp_gt (pc := 18) (tgt := 25) dX1_troubleOfSliding_18 (by decide) (fun c4 => ?_) (fun c4 => ?_)
      · replace h := ifp c4 h
        refine J_iconst (v := (2 : Int32)) (pc := 25) dX1_troubleOfSliding_25 (by decide) ?_
        cases h
        exact J_ireturn dX1_troubleOfSliding_26 rfl rfl rfl rfl rfl
      · replace h := ifn c4 h
        refine J_iload_n (pc := 21) dX1_troubleOfSliding_21 rfl 2 rfl ?_
        refine J_if_ne (pc := 22) (tgt := 27) dX1_troubleOfSliding_22 (by decide) (fun c5 => ?_) (fun c5 => ?_)
        · replace h := ifn c5 h
          refine J_iload_n (pc := 27) dX1_troubleOfSliding_27 rfl 2 rfl ?_
          obtain ⟨v6, hv14, h⟩ := obind_e h
          refine J_join [(2, .int a2)] M 46 [.int v6] ?_ (fun hJ => ?_)
          · refine J_istore_n (pc := 46) dX1_troubleOfSliding_46 rfl (Nat.le_of_ble_eq_true rfl) [1, 0] rfl ?_
            refine J_iload_n (pc := 47) dX1_troubleOfSliding_47 rfl 0 rfl ?_
            refine J_callS (g := mi_J9_abs_0f7a4) (pc := 48) [.int a2] [] ms_J9_abs_0f7a4 w_377 (k_J9_abs_0f7a4 a2 _) rfl rfl ⟨⟨Nat.le_of_ble_eq_true rfl, Nat.le_of_ble_eq_true rfl⟩, Nat.le_of_ble_eq_true rfl, Nat.le_of_ble_eq_true rfl⟩ (Nat.le_of_ble_eq_true rfl) dX1_troubleOfSliding_48 (Jk_v rfl rfl fun hok15 => ?_)
            refine J_iload_n (pc := 51) dX1_troubleOfSliding_51 rfl 1 rfl ?_
            refine J_icmp_le (pc := 52) (tgt := 59) dX1_troubleOfSliding_52 (by decide) (fun c16 => ?_) (fun c16 => ?_)
            · replace h := ifp c16 h
              refine J_iconst (v := (0 : Int32)) (pc := 59) dX1_troubleOfSliding_59 (by decide) ?_
              cases h
              exact J_ireturn dX1_troubleOfSliding_60 rfl rfl rfl rfl rfl
            · replace h := ifn c16 h
              refine J_iconst (v := (3 : Int32)) (pc := 55) dX1_troubleOfSliding_55 (by decide) ?_
              refine J_goto (pc := 56) (tgt := 60) dX1_troubleOfSliding_56 (by decide) ?_
              cases h
              exact J_ireturn dX1_troubleOfSliding_60 rfl rfl rfl rfl rfl
          · replace h := hv14
            refine J_if_le (pc := 28) (tgt := 40) dX1_troubleOfSliding_28 (by decide) (fun c7 => ?_) (fun c7 => ?_)
            · replace h := ifp c7 h
              refine J_aload_n (pc := 40) dX1_troubleOfSliding_40 rfl 0 rfl ?_
              refine J_iload_n (pc := 41) dX1_troubleOfSliding_41 rfl 1 rfl ?_
              refine J_iconst (v := (-1 : Int32)) (pc := 42) dX1_troubleOfSliding_42 (by decide) ?_
              obtain ⟨v8, hc9, h⟩ := obind_e h
              refine J_callV (g := mi_X1_roomOf) (ci := 1) (pc := 43) [.int a1, .int (-1 : Int32)] [] mv_X1_roomOf w_780 (k_X1_roomOf a1 (-1 : Int32) _ hc9) rfl (by decide) rfl rfl rfl ⟨⟨Nat.le_of_ble_eq_true rfl, Nat.le_of_ble_eq_true rfl⟩, Nat.le_of_ble_eq_true rfl, Nat.le_of_ble_eq_true rfl⟩ (Nat.le_of_ble_eq_true rfl) dX1_troubleOfSliding_43 (Jk_v rfl rfl fun hok10 => ?_)
              cases h
              refine J_sub [2] rfl ?_
              exact hJ
            · replace h := ifn c7 h
              refine J_aload_n (pc := 31) dX1_troubleOfSliding_31 rfl 0 rfl ?_
              refine J_iload_n (pc := 32) dX1_troubleOfSliding_32 rfl 1 rfl ?_
              refine J_iconst (v := (1 : Int32)) (pc := 33) dX1_troubleOfSliding_33 (by decide) ?_
              obtain ⟨v11, hc12, h⟩ := obind_e h
              refine J_callV (g := mi_X1_roomOf) (ci := 1) (pc := 34) [.int a1, .int (1 : Int32)] [] mv_X1_roomOf w_780 (k_X1_roomOf a1 (1 : Int32) _ hc12) rfl (by decide) rfl rfl rfl ⟨⟨Nat.le_of_ble_eq_true rfl, Nat.le_of_ble_eq_true rfl⟩, Nat.le_of_ble_eq_true rfl, Nat.le_of_ble_eq_true rfl⟩ (Nat.le_of_ble_eq_true rfl) dX1_troubleOfSliding_34 (Jk_v rfl rfl fun hok13 => ?_)
              refine J_goto (pc := 37) (tgt := 46) dX1_troubleOfSliding_37 (by decide) ?_
              cases h
              refine J_sub [2] rfl ?_
              exact hJ
        · replace h := ifp c5 h
          refine J_iconst (v := (2 : Int32)) (pc := 25) dX1_troubleOfSliding_25 (by decide) ?_
          cases h
          exact J_ireturn dX1_troubleOfSliding_26 rfl rfl rfl rfl rfl
  · replace h := ifp c2 h
    refine J_iconst (v := (1 : Int32)) (pc := 8) dX1_troubleOfSliding_8 (by decide) ?_
    cases h
    exact J_ireturn dX1_troubleOfSliding_9 rfl rfl rfl rfl rfl
set_option maxHeartbeats 4000000 in
set_option maxRecDepth 100000 in
theorem k_X1_makeSlide {E : En} (a1 : Int32) (a2 : Int32) (M : Wd) {r : Int32} {M' : Wd} (h : F_X1_makeSlide a1 a2 M = some (r, M')) : Con E mi_X1_makeSlide [.ref 1, .int a1, .int a2] M (.inl (some (.int r))) M' := by
  unfold F_X1_makeSlide at h
  refine Con.of (by decide) rfl (by decide) (fun κ => ?_)
  show J κ E mi_X1_makeSlide _ 0 0 [(0, .ref 1), (1, .int a1), (2, .int a2)] M 0 []
  refine J_aload_n (pc := 0) dX1_makeSlide_0 rfl 0 rfl ?_
  refine J_iload_n (pc := 1) dX1_makeSlide_1 rfl 1 rfl ?_
  refine J_callV (g := mi_X1_hasCar) (ci := 1) (pc := 2) [.int a1] [] mv_X1_hasCar w_268 (k_X1_hasCar a1 _) rfl (by decide) rfl rfl rfl ⟨⟨Nat.le_of_ble_eq_true rfl, Nat.le_of_ble_eq_true rfl⟩, Nat.le_of_ble_eq_true rfl, Nat.le_of_ble_eq_true rfl⟩ (Nat.le_of_ble_eq_true rfl) dX1_makeSlide_2 (Jk_v rfl rfl fun hok1 => ?_)
  refine J_if_eq (pc := 5) (tgt := 24) dX1_makeSlide_5 (by decide) (fun c2 => ?_) (fun c2 => ?_)
  · replace h := ifp c2 h
    refine J_iconst (v := (-1 : Int32)) (pc := 24) dX1_makeSlide_24 (by decide) ?_
    cases h
    exact J_ireturn dX1_makeSlide_25 rfl rfl rfl rfl rfl
  · replace h := ifn c2 h
    refine J_aload_n (pc := 8) dX1_makeSlide_8 rfl 0 rfl ?_
    refine J_get (c := 1) (ci := 1) (v := .int (M.1 1 7)) (pc := 9) rfl (by decide) rfl lay_X1 7 (by decide) w_126 rfl rfl dX1_makeSlide_9 ?_
    refine J_if_lt (pc := 12) (tgt := 24) dX1_makeSlide_12 (by decide) (fun c3 => ?_) (fun c3 => ?_)
    · replace h := ifp c3 h
      refine J_iconst (v := (-1 : Int32)) (pc := 24) dX1_makeSlide_24 (by decide) ?_
      cases h
      exact J_ireturn dX1_makeSlide_25 rfl rfl rfl rfl rfl
    · replace h := ifn c3 h
      refine J_aload_n (pc := 15) dX1_makeSlide_15 rfl 0 rfl ?_
      refine J_get (c := 1) (ci := 1) (v := .int (M.1 1 7)) (pc := 16) rfl (by decide) rfl lay_X1 7 (by decide) w_126 rfl rfl dX1_makeSlide_16 ?_
      refine J_bipush (v := (60 : Int32)) (pc := 19) dX1_makeSlide_19 (by decide) ?_
      refine J_icmp_lt (pc := 21) (tgt := 26) dX1_makeSlide_21 (by decide) (fun c4 => ?_) (fun c4 => ?_)
      · replace h := ifp c4 h
        refine J_aload_n (pc := 26) dX1_makeSlide_26 rfl 0 rfl ?_
        refine J_get (c := 1) (ci := 1) (v := .ref 3) (pc := 27) rfl (by decide) rfl lay_X1 1 (by decide) w_112 rfl rfl dX1_makeSlide_27 ?_
        refine J_iload_n (pc := 30) dX1_makeSlide_30 rfl 1 rfl ?_
        refine J_dup2 (pc := 31) dX1_makeSlide_31 rfl rfl ?_
        obtain ⟨v5, e6, hk7, h⟩ := ldi_e h
        refine J_iald (c := 3) (N := 6) (pc := 32) rfl (by decide) hk7 dX1_makeSlide_32 ?_
        refine J_topi e6 ?_
        refine J_iload_n (pc := 33) dX1_makeSlide_33 rfl 2 rfl ?_
        refine J_iadd (pc := 34) dX1_makeSlide_34 ?_
        obtain ⟨hk8, h⟩ := inb_e h
        refine J_iast (c := 3) (N := 6) (pc := 35) (fun _ => rfl) (by decide) hk8 dX1_makeSlide_35 ?_
        refine J_aload_n (pc := 36) dX1_makeSlide_36 rfl 0 rfl ?_
        refine J_get (c := 1) (ci := 1) (v := .ref 5) (pc := 37) rfl (by decide) rfl lay_X1 3 (by decide) w_118 rfl rfl dX1_makeSlide_37 ?_
        refine J_aload_n (pc := 40) dX1_makeSlide_40 rfl 0 rfl ?_
        refine J_get (c := 1) (ci := 1) (v := .int (M.1 1 7)) (pc := 41) rfl (by decide) rfl lay_X1 7 (by decide) w_126 rfl rfl dX1_makeSlide_41 ?_
        refine J_iload_n (pc := 44) dX1_makeSlide_44 rfl 1 rfl ?_
        obtain ⟨hk9, h⟩ := inb_e h
        refine J_iast (c := 5) (N := 60) (pc := 45) (fun _ => rfl) (by decide) hk9 dX1_makeSlide_45 ?_
        refine J_aload_n (pc := 46) dX1_makeSlide_46 rfl 0 rfl ?_
        refine J_get (c := 1) (ci := 1) (v := .ref 6) (pc := 47) rfl (by decide) rfl lay_X1 4 (by decide) w_120 rfl rfl dX1_makeSlide_47 ?_
        refine J_aload_n (pc := 50) dX1_makeSlide_50 rfl 0 rfl ?_
        refine J_get (c := 1) (ci := 1) (v := .int (M.1 1 7)) (pc := 51) rfl (by decide) rfl lay_X1 7 (by decide) w_126 rfl rfl dX1_makeSlide_51 ?_
        refine J_iload_n (pc := 54) dX1_makeSlide_54 rfl 2 rfl ?_
        obtain ⟨hk10, h⟩ := inb_e h
        refine J_iast (c := 6) (N := 60) (pc := 55) (fun _ => rfl) (by decide) hk10 dX1_makeSlide_55 ?_
        refine J_aload_n (pc := 56) dX1_makeSlide_56 rfl 0 rfl ?_
        refine J_dup (pc := 57) dX1_makeSlide_57 rfl ?_
        refine J_get (c := 1) (ci := 1) (v := .int (M.1 1 7)) (pc := 58) rfl (by decide) rfl lay_X1 7 (by decide) w_126 rfl rfl dX1_makeSlide_58 ?_
        refine J_iconst (v := (1 : Int32)) (pc := 61) dX1_makeSlide_61 (by decide) ?_
        refine J_iadd (pc := 62) dX1_makeSlide_62 ?_
        refine J_put (c := 1) (ci := 1) (M' := (upI (upI (upI (upI M 3 a1.toNatClampNeg (v5 + a2)) 5 (M.1 1 7).toNatClampNeg a1) 6 (M.1 1 7).toNatClampNeg a2) 1 7 ((M.1 1 7) + (1 : Int32)))) (pc := 63) rfl (by decide) rfl lay_X1 tyX1 tyX1_ok nmX1 7 (by decide) w_126 rfl rfl rfl rfl (Nat.le_of_ble_eq_true rfl) rfl jc_ne_I dX1_makeSlide_63 ?_
        refine J_aload_n (pc := 66) dX1_makeSlide_66 rfl 0 rfl ?_
        refine J_get (c := 1) (ci := 1) (v := .ref 3) (pc := 67) rfl (by decide) rfl lay_X1 1 (by decide) w_112 rfl rfl dX1_makeSlide_67 ?_
        refine J_iload_n (pc := 70) dX1_makeSlide_70 rfl 1 rfl ?_
        obtain ⟨v11, e12, hk13, h⟩ := ldi_e h
        refine J_iald (c := 3) (N := 6) (pc := 71) rfl (by decide) hk13 dX1_makeSlide_71 ?_
        refine J_topi e12 ?_
        cases h
        exact J_ireturn dX1_makeSlide_72 rfl rfl rfl rfl rfl
      · replace h := ifn c4 h
        refine J_iconst (v := (-1 : Int32)) (pc := 24) dX1_makeSlide_24 (by decide) ?_
        cases h
        exact J_ireturn dX1_makeSlide_25 rfl rfl rfl rfl rfl
set_option maxHeartbeats 4000000 in
set_option maxRecDepth 100000 in
theorem k_X1_unmakeSlide {E : En} (M : Wd) {r : Int32} {M' : Wd} (h : F_X1_unmakeSlide M = some (r, M')) : Con E mi_X1_unmakeSlide [.ref 1] M (.inl (some (.int r))) M' := by
  unfold F_X1_unmakeSlide at h
  refine Con.of (by decide) rfl (by decide) (fun κ => ?_)
  show J κ E mi_X1_unmakeSlide _ 0 0 [(0, .ref 1)] M 0 []
  refine J_aload_n (pc := 0) dX1_unmakeSlide_0 rfl 0 rfl ?_
  refine J_aload_n (pc := 1) dX1_unmakeSlide_1 rfl 0 rfl ?_
  refine J_get (c := 1) (ci := 1) (v := .int (M.1 1 7)) (pc := 2) rfl (by decide) rfl lay_X1 7 (by decide) w_126 rfl rfl dX1_unmakeSlide_2 ?_
  refine J_iconst (v := (1 : Int32)) (pc := 5) dX1_unmakeSlide_5 (by decide) ?_
  refine J_isub (pc := 6) dX1_unmakeSlide_6 ?_
  refine J_callV (g := mi_X1_hasSlide) (ci := 1) (pc := 7) [.int ((M.1 1 7) - (1 : Int32))] [] mv_X1_hasSlide w_264 (k_X1_hasSlide ((M.1 1 7) - (1 : Int32)) _) rfl (by decide) rfl rfl rfl ⟨⟨Nat.le_of_ble_eq_true rfl, Nat.le_of_ble_eq_true rfl⟩, Nat.le_of_ble_eq_true rfl, Nat.le_of_ble_eq_true rfl⟩ (Nat.le_of_ble_eq_true rfl) dX1_unmakeSlide_7 (Jk_v rfl rfl fun hok1 => ?_)
  refine J_if_ne (pc := 10) (tgt := 15) dX1_unmakeSlide_10 (by decide) (fun c2 => ?_) (fun c2 => ?_)
  · replace h := ifn c2 h
    refine J_aload_n (pc := 15) dX1_unmakeSlide_15 rfl 0 rfl ?_
    refine J_dup (pc := 16) dX1_unmakeSlide_16 rfl ?_
    refine J_get (c := 1) (ci := 1) (v := .int (M.1 1 7)) (pc := 17) rfl (by decide) rfl lay_X1 7 (by decide) w_126 rfl rfl dX1_unmakeSlide_17 ?_
    refine J_iconst (v := (1 : Int32)) (pc := 20) dX1_unmakeSlide_20 (by decide) ?_
    refine J_isub (pc := 21) dX1_unmakeSlide_21 ?_
    refine J_put (c := 1) (ci := 1) (M' := (upI M 1 7 ((M.1 1 7) - (1 : Int32)))) (pc := 22) rfl (by decide) rfl lay_X1 tyX1 tyX1_ok nmX1 7 (by decide) w_126 rfl rfl rfl rfl (Nat.le_of_ble_eq_true rfl) rfl jc_ne_I dX1_unmakeSlide_22 ?_
    refine J_aload_n (pc := 25) dX1_unmakeSlide_25 rfl 0 rfl ?_
    refine J_get (c := 1) (ci := 1) (v := .ref 5) (pc := 26) rfl (by decide) rfl lay_X1 3 (by decide) w_118 rfl rfl dX1_unmakeSlide_26 ?_
    refine J_aload_n (pc := 29) dX1_unmakeSlide_29 rfl 0 rfl ?_
    refine J_get (c := 1) (ci := 1) (v := .int ((M.1 1 7) - (1 : Int32))) (pc := 30) rfl (by decide) rfl lay_X1 7 (by decide) w_126 rfl rfl dX1_unmakeSlide_30 ?_
    obtain ⟨v3, e4, hk5, h⟩ := ldi_e h
    refine J_iald (c := 5) (N := 60) (pc := 33) rfl (by decide) hk5 dX1_unmakeSlide_33 ?_
    refine J_topi e4 ?_
    refine J_istore_n (pc := 34) dX1_unmakeSlide_34 rfl (Nat.le_of_ble_eq_true rfl) [1, 0] rfl ?_
    refine J_aload_n (pc := 35) dX1_unmakeSlide_35 rfl 0 rfl ?_
    refine J_iload_n (pc := 36) dX1_unmakeSlide_36 rfl 1 rfl ?_
    refine J_callV (g := mi_X1_hasCar) (ci := 1) (pc := 37) [.int v3] [] mv_X1_hasCar w_268 (k_X1_hasCar v3 _) rfl (by decide) rfl rfl rfl ⟨⟨Nat.le_of_ble_eq_true rfl, Nat.le_of_ble_eq_true rfl⟩, Nat.le_of_ble_eq_true rfl, Nat.le_of_ble_eq_true rfl⟩ (Nat.le_of_ble_eq_true rfl) dX1_unmakeSlide_37 (Jk_v rfl rfl fun hok6 => ?_)
    obtain ⟨M7, hv16, h⟩ := obind_e h
    refine J_join [(1, .int v3)] M7 61 [] ?_ (fun hJ => ?_)
    · refine J_iload_n (pc := 61) dX1_unmakeSlide_61 rfl 0 rfl ?_
      cases h
      exact J_ireturn dX1_unmakeSlide_62 rfl rfl rfl rfl rfl
    · replace h := hv16
      refine J_if_eq (pc := 40) (tgt := 61) dX1_unmakeSlide_40 (by decide) (fun c8 => ?_) (fun c8 => ?_)
      · replace h := ifp c8 h
        cases h
        refine J_sub [1] rfl ?_
        exact hJ
      · replace h := ifn c8 h
        refine J_aload_n (pc := 43) dX1_unmakeSlide_43 rfl 0 rfl ?_
        refine J_get (c := 1) (ci := 1) (v := .ref 3) (pc := 44) rfl (by decide) rfl lay_X1 1 (by decide) w_112 rfl rfl dX1_unmakeSlide_44 ?_
        refine J_iload_n (pc := 47) dX1_unmakeSlide_47 rfl 1 rfl ?_
        refine J_dup2 (pc := 48) dX1_unmakeSlide_48 rfl rfl ?_
        obtain ⟨v9, e10, hk11, h⟩ := ldi_e h
        refine J_iald (c := 3) (N := 6) (pc := 49) rfl (by decide) hk11 dX1_unmakeSlide_49 ?_
        refine J_topi e10 ?_
        refine J_aload_n (pc := 50) dX1_unmakeSlide_50 rfl 0 rfl ?_
        refine J_get (c := 1) (ci := 1) (v := .ref 6) (pc := 51) rfl (by decide) rfl lay_X1 4 (by decide) w_120 rfl rfl dX1_unmakeSlide_51 ?_
        refine J_aload_n (pc := 54) dX1_unmakeSlide_54 rfl 0 rfl ?_
        refine J_get (c := 1) (ci := 1) (v := .int ((M.1 1 7) - (1 : Int32))) (pc := 55) rfl (by decide) rfl lay_X1 7 (by decide) w_126 rfl rfl dX1_unmakeSlide_55 ?_
        obtain ⟨v12, e13, hk14, h⟩ := ldi_e h
        refine J_iald (c := 6) (N := 60) (pc := 58) rfl (by decide) hk14 dX1_unmakeSlide_58 ?_
        refine J_topi e13 ?_
        refine J_isub (pc := 59) dX1_unmakeSlide_59 ?_
        obtain ⟨hk15, h⟩ := inb_e h
        refine J_iast (c := 3) (N := 6) (pc := 60) (fun _ => rfl) (by decide) hk15 dX1_unmakeSlide_60 ?_
        cases h
        refine J_sub [1] rfl ?_
        exact hJ
  · replace h := ifp c2 h
    refine J_iconst (v := (-1 : Int32)) (pc := 13) dX1_unmakeSlide_13 (by decide) ?_
    cases h
    exact J_ireturn dX1_unmakeSlide_14 rfl rfl rfl rfl rfl
set_option maxHeartbeats 4000000 in
set_option maxRecDepth 100000 in
theorem kL_X1_loggedSteps_L4 {κ : Kx} {E : En} {Q : State → Prop} {k n : Nat} {ρ : Type} {r : ρ} (a1 : Int32) (M : Wd) (K46 : Int32 → Option ρ) (hK46 : ∀ (x2 : Int32), K46 x2 = some r → J κ E mi_X1_loggedSteps Q k n [(2, .int x2)] M 46 []) : ∀ (m : Nat) (x2 : Int32) (x3 : Int32), F_X1_loggedSteps_L4 a1 M K46 m x2 x3 = some r → J κ E mi_X1_loggedSteps Q k n [(0, .ref 1), (1, .int a1), (2, .int x2), (3, .int x3)] M 4 [] := by
  intro m
  induction m with
  | zero => intro x2 x3 h; exact (nomatch (show (none : Option ρ) = some r from h))
  | succ m ih =>
    intro x2 x3 h
    unfold F_X1_loggedSteps_L4 at h
    refine J_iload_n (pc := 4) dX1_loggedSteps_4 rfl 3 rfl ?_
    refine J_aload_n (pc := 5) dX1_loggedSteps_5 rfl 0 rfl ?_
    refine J_get (c := 1) (ci := 1) (v := .int (M.1 1 7)) (pc := 6) rfl (by decide) rfl lay_X1 7 (by decide) w_126 rfl rfl dX1_loggedSteps_6 ?_
    refine J_icmp_ge (pc := 9) (tgt := 46) dX1_loggedSteps_9 (by decide) (fun c1 => ?_) (fun c1 => ?_)
    · replace h := ifp c1 h
      refine J_sub [2] rfl ?_
      exact hK46 _ h
    · replace h := ifn c1 h
      refine J_iload_n (pc := 12) dX1_loggedSteps_12 rfl 3 rfl ?_
      refine J_bipush (v := (60 : Int32)) (pc := 13) dX1_loggedSteps_13 (by decide) ?_
      refine J_icmp_ge (pc := 15) (tgt := 46) dX1_loggedSteps_15 (by decide) (fun c2 => ?_) (fun c2 => ?_)
      · replace h := ifp c2 h
        refine J_sub [2] rfl ?_
        exact hK46 _ h
      · replace h := ifn c2 h
        refine J_aload_n (pc := 18) dX1_loggedSteps_18 rfl 0 rfl ?_
        refine J_get (c := 1) (ci := 1) (v := .ref 5) (pc := 19) rfl (by decide) rfl lay_X1 3 (by decide) w_118 rfl rfl dX1_loggedSteps_19 ?_
        refine J_iload_n (pc := 22) dX1_loggedSteps_22 rfl 3 rfl ?_
        obtain ⟨v3, e4, hk5, h⟩ := ldi_e h
        refine J_iald (c := 5) (N := 60) (pc := 23) rfl (by decide) hk5 dX1_loggedSteps_23 ?_
        refine J_topi e4 ?_
        refine J_iload_n (pc := 24) dX1_loggedSteps_24 rfl 1 rfl ?_
        obtain ⟨v6, hv14, h⟩ := obind_e h
        refine J_join [(0, .ref 1), (1, .int a1), (2, .int v6), (3, .int x3)] M 40 [] ?_ (fun hJ => ?_)
        · obtain ⟨v15, e16, h⟩ := bnd_e h
          refine J_iinc (v := v15) (pc := 40) dX1_loggedSteps_40 3 rfl (by rw [e16]; rfl) (Nat.le_of_ble_eq_true rfl) [1, 2, 3, 0] rfl ?_
          refine J_goto (pc := 43) (tgt := 4) dX1_loggedSteps_43 (by decide) ?_
          exact ih _ _ h
        · replace h := hv14
          refine J_icmp_ne (pc := 25) (tgt := 40) dX1_loggedSteps_25 (by decide) (fun c7 => ?_) (fun c7 => ?_)
          · replace h := ifn c7 h
            cases h
            exact hJ
          · replace h := ifp c7 h
            refine J_iload_n (pc := 28) dX1_loggedSteps_28 rfl 2 rfl ?_
            refine J_aload_n (pc := 29) dX1_loggedSteps_29 rfl 0 rfl ?_
            refine J_get (c := 1) (ci := 1) (v := .ref 6) (pc := 30) rfl (by decide) rfl lay_X1 4 (by decide) w_120 rfl rfl dX1_loggedSteps_30 ?_
            refine J_iload_n (pc := 33) dX1_loggedSteps_33 rfl 3 rfl ?_
            obtain ⟨v8, e9, hk10, h⟩ := ldi_e h
            refine J_iald (c := 6) (N := 60) (pc := 34) rfl (by decide) hk10 dX1_loggedSteps_34 ?_
            refine J_topi e9 ?_
            refine J_callS (g := mi_J9_abs_0f7a4) (pc := 35) [.int v8] [.int x2] ms_J9_abs_0f7a4 w_377 (k_J9_abs_0f7a4 v8 _) rfl rfl ⟨⟨Nat.le_of_ble_eq_true rfl, Nat.le_of_ble_eq_true rfl⟩, Nat.le_of_ble_eq_true rfl, Nat.le_of_ble_eq_true rfl⟩ (Nat.le_of_ble_eq_true rfl) dX1_loggedSteps_35 (Jk_v rfl rfl fun hok11 => ?_)
            refine J_iadd (pc := 38) dX1_loggedSteps_38 ?_
            obtain ⟨v12, e13, h⟩ := bnd_e h
            refine J_topi e13 ?_
            refine J_istore_n (pc := 39) dX1_loggedSteps_39 rfl (Nat.le_of_ble_eq_true rfl) [1, 2, 0, 3] rfl ?_
            cases h
            exact hJ
set_option maxHeartbeats 4000000 in
set_option maxRecDepth 100000 in
theorem k_X1_loggedSteps {E : En} (a1 : Int32) (M : Wd) {r : Int32} (h : F_X1_loggedSteps a1 M = some r) : Con E mi_X1_loggedSteps [.ref 1, .int a1] M (.inl (some (.int r))) M := by
  unfold F_X1_loggedSteps at h
  refine Con.of (by decide) rfl (by decide) (fun κ => ?_)
  show J κ E mi_X1_loggedSteps _ 0 0 [(0, .ref 1), (1, .int a1)] M 0 []
  refine J_iconst (v := (0 : Int32)) (pc := 0) dX1_loggedSteps_0 (by decide) ?_
  refine J_istore_n (pc := 1) dX1_loggedSteps_1 rfl (Nat.le_of_ble_eq_true rfl) [1, 2, 0] rfl ?_
  refine J_iconst (v := (0 : Int32)) (pc := 2) dX1_loggedSteps_2 (by decide) ?_
  refine J_istore_n (pc := 3) dX1_loggedSteps_3 rfl (Nat.le_of_ble_eq_true rfl) [1, 2, 3, 0] rfl ?_
  refine kL_X1_loggedSteps_L4 _ _ _ (fun v17 h => ?_) fuelN _ _ h
  refine J_iload_n (pc := 46) dX1_loggedSteps_46 rfl 0 rfl ?_
  cases h
  exact J_ireturn dX1_loggedSteps_47 rfl rfl rfl rfl rfl
set_option maxHeartbeats 4000000 in
set_option maxRecDepth 100000 in
theorem kL_X1_fuelSlideBySlide_L4 {κ : Kx} {E : En} {Q : State → Prop} {k n : Nat} {ρ : Type} {r : ρ} (M : Wd) (K62 : Int32 → Option ρ) (hK62 : ∀ (x1 : Int32), K62 x1 = some r → J κ E mi_X1_fuelSlideBySlide Q k n [(1, .int x1)] M 62 []) : ∀ (m : Nat) (x1 : Int32) (x2 : Int32), F_X1_fuelSlideBySlide_L4 M K62 m x1 x2 = some r → J κ E mi_X1_fuelSlideBySlide Q k n [(0, .ref 1), (1, .int x1), (2, .int x2)] M 4 [] := by
  intro m
  induction m with
  | zero => intro x1 x2 h; exact (nomatch (show (none : Option ρ) = some r from h))
  | succ m ih =>
    intro x1 x2 h
    unfold F_X1_fuelSlideBySlide_L4 at h
    refine J_iload_n (pc := 4) dX1_fuelSlideBySlide_4 rfl 2 rfl ?_
    refine J_aload_n (pc := 5) dX1_fuelSlideBySlide_5 rfl 0 rfl ?_
    refine J_get (c := 1) (ci := 1) (v := .int (M.1 1 7)) (pc := 6) rfl (by decide) rfl lay_X1 7 (by decide) w_126 rfl rfl dX1_fuelSlideBySlide_6 ?_
    refine J_icmp_ge (pc := 9) (tgt := 62) dX1_fuelSlideBySlide_9 (by decide) (fun c1 => ?_) (fun c1 => ?_)
    · replace h := ifp c1 h
      refine J_sub [1] rfl ?_
      exact hK62 _ h
    · replace h := ifn c1 h
      refine J_iload_n (pc := 12) dX1_fuelSlideBySlide_12 rfl 2 rfl ?_
      refine J_bipush (v := (60 : Int32)) (pc := 13) dX1_fuelSlideBySlide_13 (by decide) ?_
      refine J_icmp_ge (pc := 15) (tgt := 62) dX1_fuelSlideBySlide_15 (by decide) (fun c2 => ?_) (fun c2 => ?_)
      · replace h := ifp c2 h
        refine J_sub [1] rfl ?_
        exact hK62 _ h
      · replace h := ifn c2 h
        refine J_aload_n (pc := 18) dX1_fuelSlideBySlide_18 rfl 0 rfl ?_
        refine J_get (c := 1) (ci := 1) (v := .ref 5) (pc := 19) rfl (by decide) rfl lay_X1 3 (by decide) w_118 rfl rfl dX1_fuelSlideBySlide_19 ?_
        refine J_iload_n (pc := 22) dX1_fuelSlideBySlide_22 rfl 2 rfl ?_
        obtain ⟨v3, e4, hk5, h⟩ := ldi_e h
        refine J_iald (c := 5) (N := 60) (pc := 23) rfl (by decide) hk5 dX1_fuelSlideBySlide_23 ?_
        refine J_topi e4 ?_
        refine J_istore_n (pc := 24) dX1_fuelSlideBySlide_24 rfl (Nat.le_of_ble_eq_true rfl) [1, 2, 3, 0] rfl ?_
        refine J_iload_n (pc := 25) dX1_fuelSlideBySlide_25 rfl 1 rfl ?_
        refine J_aload_n (pc := 26) dX1_fuelSlideBySlide_26 rfl 0 rfl ?_
        refine J_iload_n (pc := 27) dX1_fuelSlideBySlide_27 rfl 3 rfl ?_
        refine J_callV (g := mi_X1_hasCar) (ci := 1) (pc := 28) [.int v3] [.int x1] mv_X1_hasCar w_268 (k_X1_hasCar v3 _) rfl (by decide) rfl rfl rfl ⟨⟨Nat.le_of_ble_eq_true rfl, Nat.le_of_ble_eq_true rfl⟩, Nat.le_of_ble_eq_true rfl, Nat.le_of_ble_eq_true rfl⟩ (Nat.le_of_ble_eq_true rfl) dX1_fuelSlideBySlide_28 (Jk_v rfl rfl fun hok6 => ?_)
        obtain ⟨v7, hv16, h⟩ := obind_e h
        refine J_join [(0, .ref 1), (2, .int x2)] M 54 [.int v7, .int x1] ?_ (fun hJ => ?_)
        · refine J_iadd (pc := 54) dX1_fuelSlideBySlide_54 ?_
          obtain ⟨v17, e18, h⟩ := bnd_e h
          refine J_topi e18 ?_
          refine J_istore_n (pc := 55) dX1_fuelSlideBySlide_55 rfl (Nat.le_of_ble_eq_true rfl) [1, 0, 2] rfl ?_
          obtain ⟨v19, e20, h⟩ := bnd_e h
          refine J_iinc (v := v19) (pc := 56) dX1_fuelSlideBySlide_56 2 rfl (by rw [e20]; rfl) (Nat.le_of_ble_eq_true rfl) [1, 2, 0] rfl ?_
          refine J_goto (pc := 59) (tgt := 4) dX1_fuelSlideBySlide_59 (by decide) ?_
          exact ih _ _ h
        · replace h := hv16
          refine J_if_eq (pc := 31) (tgt := 53) dX1_fuelSlideBySlide_31 (by decide) (fun c8 => ?_) (fun c8 => ?_)
          · replace h := ifp c8 h
            refine J_iconst (v := (0 : Int32)) (pc := 53) dX1_fuelSlideBySlide_53 (by decide) ?_
            cases h
            refine J_sub [0, 2] rfl ?_
            exact hJ
          · replace h := ifn c8 h
            refine J_aload_n (pc := 34) dX1_fuelSlideBySlide_34 rfl 0 rfl ?_
            refine J_get (c := 1) (ci := 1) (v := .ref 6) (pc := 35) rfl (by decide) rfl lay_X1 4 (by decide) w_120 rfl rfl dX1_fuelSlideBySlide_35 ?_
            refine J_iload_n (pc := 38) dX1_fuelSlideBySlide_38 rfl 2 rfl ?_
            obtain ⟨v9, e10, hk11, h⟩ := ldi_e h
            refine J_iald (c := 6) (N := 60) (pc := 39) rfl (by decide) hk11 dX1_fuelSlideBySlide_39 ?_
            refine J_topi e10 ?_
            refine J_callS (g := mi_J9_abs_0f7a4) (pc := 40) [.int v9] [.int x1] ms_J9_abs_0f7a4 w_377 (k_J9_abs_0f7a4 v9 _) rfl rfl ⟨⟨Nat.le_of_ble_eq_true rfl, Nat.le_of_ble_eq_true rfl⟩, Nat.le_of_ble_eq_true rfl, Nat.le_of_ble_eq_true rfl⟩ (Nat.le_of_ble_eq_true rfl) dX1_fuelSlideBySlide_40 (Jk_v rfl rfl fun hok12 => ?_)
            refine J_aload_n (pc := 43) dX1_fuelSlideBySlide_43 rfl 0 rfl ?_
            refine J_get (c := 1) (ci := 1) (v := .ref 4) (pc := 44) rfl (by decide) rfl lay_X1 2 (by decide) w_115 rfl rfl dX1_fuelSlideBySlide_44 ?_
            refine J_iload_n (pc := 47) dX1_fuelSlideBySlide_47 rfl 3 rfl ?_
            obtain ⟨v13, e14, hk15, h⟩ := ldi_e h
            refine J_iald (c := 4) (N := 6) (pc := 48) rfl (by decide) hk15 dX1_fuelSlideBySlide_48 ?_
            refine J_topi e14 ?_
            refine J_imul (pc := 49) dX1_fuelSlideBySlide_49 ?_
            refine J_goto (pc := 50) (tgt := 54) dX1_fuelSlideBySlide_50 (by decide) ?_
            cases h
            refine J_sub [0, 2] rfl ?_
            exact hJ
set_option maxHeartbeats 4000000 in
set_option maxRecDepth 100000 in
theorem k_X1_fuelSlideBySlide {E : En} (M : Wd) {r : Int32} (h : F_X1_fuelSlideBySlide M = some r) : Con E mi_X1_fuelSlideBySlide [.ref 1] M (.inl (some (.int r))) M := by
  unfold F_X1_fuelSlideBySlide at h
  refine Con.of (by decide) rfl (by decide) (fun κ => ?_)
  show J κ E mi_X1_fuelSlideBySlide _ 0 0 [(0, .ref 1)] M 0 []
  refine J_iconst (v := (0 : Int32)) (pc := 0) dX1_fuelSlideBySlide_0 (by decide) ?_
  refine J_istore_n (pc := 1) dX1_fuelSlideBySlide_1 rfl (Nat.le_of_ble_eq_true rfl) [1, 0] rfl ?_
  refine J_iconst (v := (0 : Int32)) (pc := 2) dX1_fuelSlideBySlide_2 (by decide) ?_
  refine J_istore_n (pc := 3) dX1_fuelSlideBySlide_3 rfl (Nat.le_of_ble_eq_true rfl) [1, 2, 0] rfl ?_
  refine kL_X1_fuelSlideBySlide_L4 _ _ (fun v21 h => ?_) fuelN _ _ h
  refine J_iload_n (pc := 62) dX1_fuelSlideBySlide_62 rfl 0 rfl ?_
  cases h
  exact J_ireturn dX1_fuelSlideBySlide_63 rfl rfl rfl rfl rfl
set_option maxHeartbeats 4000000 in
set_option maxRecDepth 100000 in
theorem kL_X1_fuelCarByCar_L4 {κ : Kx} {E : En} {Q : State → Prop} {k n : Nat} {ρ : Type} {r : ρ} (M : Wd) (K39 : Int32 → Option ρ) (hK39 : ∀ (x1 : Int32), K39 x1 = some r → J κ E mi_X1_fuelCarByCar Q k n [(1, .int x1)] M 39 []) : ∀ (m : Nat) (x1 : Int32) (x2 : Int32), F_X1_fuelCarByCar_L4 M K39 m x1 x2 = some r → J κ E mi_X1_fuelCarByCar Q k n [(0, .ref 1), (1, .int x1), (2, .int x2)] M 4 [] := by
  intro m
  induction m with
  | zero => intro x1 x2 h; exact (nomatch (show (none : Option ρ) = some r from h))
  | succ m ih =>
    intro x1 x2 h
    unfold F_X1_fuelCarByCar_L4 at h
    refine J_iload_n (pc := 4) dX1_fuelCarByCar_4 rfl 2 rfl ?_
    refine J_aload_n (pc := 5) dX1_fuelCarByCar_5 rfl 0 rfl ?_
    refine J_get (c := 1) (ci := 1) (v := .int (M.1 1 5)) (pc := 6) rfl (by decide) rfl lay_X1 5 (by decide) w_122 rfl rfl dX1_fuelCarByCar_6 ?_
    refine J_icmp_ge (pc := 9) (tgt := 39) dX1_fuelCarByCar_9 (by decide) (fun c1 => ?_) (fun c1 => ?_)
    · replace h := ifp c1 h
      refine J_sub [1] rfl ?_
      exact hK39 _ h
    · replace h := ifn c1 h
      refine J_iload_n (pc := 12) dX1_fuelCarByCar_12 rfl 2 rfl ?_
      refine J_bipush (v := (6 : Int32)) (pc := 13) dX1_fuelCarByCar_13 (by decide) ?_
      refine J_icmp_ge (pc := 15) (tgt := 39) dX1_fuelCarByCar_15 (by decide) (fun c2 => ?_) (fun c2 => ?_)
      · replace h := ifp c2 h
        refine J_sub [1] rfl ?_
        exact hK39 _ h
      · replace h := ifn c2 h
        refine J_iload_n (pc := 18) dX1_fuelCarByCar_18 rfl 1 rfl ?_
        refine J_aload_n (pc := 19) dX1_fuelCarByCar_19 rfl 0 rfl ?_
        refine J_iload_n (pc := 20) dX1_fuelCarByCar_20 rfl 2 rfl ?_
        obtain ⟨v3, hc4, h⟩ := obind_e h
        refine J_callV (g := mi_X1_loggedSteps) (ci := 1) (pc := 21) [.int x2] [.int x1] mv_X1_loggedSteps w_388 (k_X1_loggedSteps x2 _ hc4) rfl (by decide) rfl rfl rfl ⟨⟨Nat.le_of_ble_eq_true rfl, Nat.le_of_ble_eq_true rfl⟩, Nat.le_of_ble_eq_true rfl, Nat.le_of_ble_eq_true rfl⟩ (Nat.le_of_ble_eq_true rfl) dX1_fuelCarByCar_21 (Jk_v rfl rfl fun hok5 => ?_)
        refine J_aload_n (pc := 24) dX1_fuelCarByCar_24 rfl 0 rfl ?_
        refine J_get (c := 1) (ci := 1) (v := .ref 4) (pc := 25) rfl (by decide) rfl lay_X1 2 (by decide) w_115 rfl rfl dX1_fuelCarByCar_25 ?_
        refine J_iload_n (pc := 28) dX1_fuelCarByCar_28 rfl 2 rfl ?_
        obtain ⟨v6, e7, hk8, h⟩ := ldi_e h
        refine J_iald (c := 4) (N := 6) (pc := 29) rfl (by decide) hk8 dX1_fuelCarByCar_29 ?_
        refine J_topi e7 ?_
        refine J_imul (pc := 30) dX1_fuelCarByCar_30 ?_
        refine J_iadd (pc := 31) dX1_fuelCarByCar_31 ?_
        obtain ⟨v9, e10, h⟩ := bnd_e h
        refine J_topi e10 ?_
        refine J_istore_n (pc := 32) dX1_fuelCarByCar_32 rfl (Nat.le_of_ble_eq_true rfl) [1, 0, 2] rfl ?_
        obtain ⟨v11, e12, h⟩ := bnd_e h
        refine J_iinc (v := v11) (pc := 33) dX1_fuelCarByCar_33 2 rfl (by rw [e12]; rfl) (Nat.le_of_ble_eq_true rfl) [1, 2, 0] rfl ?_
        refine J_goto (pc := 36) (tgt := 4) dX1_fuelCarByCar_36 (by decide) ?_
        exact ih _ _ h
set_option maxHeartbeats 4000000 in
set_option maxRecDepth 100000 in
theorem k_X1_fuelCarByCar {E : En} (M : Wd) {r : Int32} (h : F_X1_fuelCarByCar M = some r) : Con E mi_X1_fuelCarByCar [.ref 1] M (.inl (some (.int r))) M := by
  unfold F_X1_fuelCarByCar at h
  refine Con.of (by decide) rfl (by decide) (fun κ => ?_)
  show J κ E mi_X1_fuelCarByCar _ 0 0 [(0, .ref 1)] M 0 []
  refine J_iconst (v := (0 : Int32)) (pc := 0) dX1_fuelCarByCar_0 (by decide) ?_
  refine J_istore_n (pc := 1) dX1_fuelCarByCar_1 rfl (Nat.le_of_ble_eq_true rfl) [1, 0] rfl ?_
  refine J_iconst (v := (0 : Int32)) (pc := 2) dX1_fuelCarByCar_2 (by decide) ?_
  refine J_istore_n (pc := 3) dX1_fuelCarByCar_3 rfl (Nat.le_of_ble_eq_true rfl) [1, 2, 0] rfl ?_
  refine kL_X1_fuelCarByCar_L4 _ _ (fun v13 h => ?_) fuelN _ _ h
  refine J_iload_n (pc := 39) dX1_fuelCarByCar_39 rfl 0 rfl ?_
  cases h
  exact J_ireturn dX1_fuelCarByCar_40 rfl rfl rfl rfl rfl
set_option maxHeartbeats 4000000 in
set_option maxRecDepth 100000 in
theorem k_X2_add {E : En} (a1 : Int32) (M : Wd) {r : Int32} {M' : Wd} (h : F_X2_add a1 M = some (r, M')) : Con E mi_X2_add [.ref 51, .int a1] M (.inl (some (.int r))) M' := by
  unfold F_X2_add at h
  refine Con.of (by decide) rfl (by decide) (fun κ => ?_)
  show J κ E mi_X2_add _ 0 0 [(0, .ref 51), (1, .int a1)] M 0 []
  refine J_aload_n (pc := 0) dX2_add_0 rfl 0 rfl ?_
  refine J_get (c := 51) (ci := 2) (v := .int (M.1 51 1)) (pc := 1) rfl (by decide) rfl lay_X2 1 (by decide) w_209 rfl rfl dX2_add_1 ?_
  obtain ⟨M1, hv5, h⟩ := obind_e h
  refine J_join [(0, .ref 51)] M1 36 [] ?_ (fun hJ => ?_)
  · refine J_aload_n (pc := 36) dX2_add_36 rfl 0 rfl ?_
    refine J_get (c := 51) (ci := 2) (v := .int (M1.1 51 1)) (pc := 37) rfl (by decide) rfl lay_X2 1 (by decide) w_209 rfl rfl dX2_add_37 ?_
    cases h
    exact J_ireturn dX2_add_40 rfl rfl rfl rfl rfl
  · replace h := hv5
    refine J_if_lt (pc := 4) (tgt := 36) dX2_add_4 (by decide) (fun c2 => ?_) (fun c2 => ?_)
    · replace h := ifp c2 h
      cases h
      refine J_sub [0] rfl ?_
      exact hJ
    · replace h := ifn c2 h
      refine J_aload_n (pc := 7) dX2_add_7 rfl 0 rfl ?_
      refine J_get (c := 51) (ci := 2) (v := .int (M.1 51 1)) (pc := 8) rfl (by decide) rfl lay_X2 1 (by decide) w_209 rfl rfl dX2_add_8 ?_
      refine J_bipush (v := (60 : Int32)) (pc := 11) dX2_add_11 (by decide) ?_
      refine J_icmp_ge (pc := 13) (tgt := 36) dX2_add_13 (by decide) (fun c3 => ?_) (fun c3 => ?_)
      · replace h := ifp c3 h
        cases h
        refine J_sub [0] rfl ?_
        exact hJ
      · replace h := ifn c3 h
        refine J_aload_n (pc := 16) dX2_add_16 rfl 0 rfl ?_
        refine J_get (c := 51) (ci := 2) (v := .ref 52) (pc := 17) rfl (by decide) rfl lay_X2 0 (by decide) w_208 rfl rfl dX2_add_17 ?_
        refine J_aload_n (pc := 20) dX2_add_20 rfl 0 rfl ?_
        refine J_get (c := 51) (ci := 2) (v := .int (M.1 51 1)) (pc := 21) rfl (by decide) rfl lay_X2 1 (by decide) w_209 rfl rfl dX2_add_21 ?_
        refine J_iload_n (pc := 24) dX2_add_24 rfl 1 rfl ?_
        obtain ⟨hk4, h⟩ := inb_e h
        refine J_iast (c := 52) (N := 60) (pc := 25) (fun _ => rfl) (by decide) hk4 dX2_add_25 ?_
        refine J_aload_n (pc := 26) dX2_add_26 rfl 0 rfl ?_
        refine J_dup (pc := 27) dX2_add_27 rfl ?_
        refine J_get (c := 51) (ci := 2) (v := .int (M.1 51 1)) (pc := 28) rfl (by decide) rfl lay_X2 1 (by decide) w_209 rfl rfl dX2_add_28 ?_
        refine J_iconst (v := (1 : Int32)) (pc := 31) dX2_add_31 (by decide) ?_
        refine J_iadd (pc := 32) dX2_add_32 ?_
        refine J_put (c := 51) (ci := 2) (M' := (upI (upI M 52 (M.1 51 1).toNatClampNeg a1) 51 1 ((M.1 51 1) + (1 : Int32)))) (pc := 33) rfl (by decide) rfl lay_X2 tyX2 tyX2_ok nmX2 1 (by decide) w_209 rfl rfl rfl rfl (Nat.le_of_ble_eq_true rfl) rfl jc_ne_I dX2_add_33 ?_
        cases h
        refine J_sub [0] rfl ?_
        exact hJ
set_option maxHeartbeats 4000000 in
set_option maxRecDepth 100000 in
theorem k_X2_clear {E : En} (M : Wd) {r : Int32} {M' : Wd} (h : F_X2_clear M = some (r, M')) : Con E mi_X2_clear [.ref 51] M (.inl (some (.int r))) M' := by
  unfold F_X2_clear at h
  refine Con.of (by decide) rfl (by decide) (fun κ => ?_)
  show J κ E mi_X2_clear _ 0 0 [(0, .ref 51)] M 0 []
  refine J_aload_n (pc := 0) dX2_clear_0 rfl 0 rfl ?_
  refine J_get (c := 51) (ci := 2) (v := .int (M.1 51 1)) (pc := 1) rfl (by decide) rfl lay_X2 1 (by decide) w_209 rfl rfl dX2_clear_1 ?_
  obtain ⟨v1, e2, h⟩ := bnd_e h
  refine J_topi e2 ?_
  refine J_istore_n (pc := 4) dX2_clear_4 rfl (Nat.le_of_ble_eq_true rfl) [1, 0] rfl ?_
  refine J_aload_n (pc := 5) dX2_clear_5 rfl 0 rfl ?_
  refine J_iconst (v := (0 : Int32)) (pc := 6) dX2_clear_6 (by decide) ?_
  refine J_put (c := 51) (ci := 2) (M' := (upI M 51 1 (0 : Int32))) (pc := 7) rfl (by decide) rfl lay_X2 tyX2 tyX2_ok nmX2 1 (by decide) w_209 rfl rfl rfl rfl (Nat.le_of_ble_eq_true rfl) rfl jc_ne_I dX2_clear_7 ?_
  refine J_iload_n (pc := 10) dX2_clear_10 rfl 1 rfl ?_
  cases h
  exact J_ireturn dX2_clear_11 rfl rfl rfl rfl rfl
set_option maxHeartbeats 4000000 in
set_option maxRecDepth 100000 in
theorem k_X2_codeAt {E : En} (a1 : Int32) (M : Wd) {r : Int32} (h : F_X2_codeAt a1 M = some r) : Con E mi_X2_codeAt [.ref 51, .int a1] M (.inl (some (.int r))) M := by
  unfold F_X2_codeAt at h
  refine Con.of (by decide) rfl (by decide) (fun κ => ?_)
  show J κ E mi_X2_codeAt _ 0 0 [(0, .ref 51), (1, .int a1)] M 0 []
  refine J_iload_n (pc := 0) dX2_codeAt_0 rfl 1 rfl ?_
  refine J_if_lt (pc := 1) (tgt := 27) dX2_codeAt_1 (by decide) (fun c1 => ?_) (fun c1 => ?_)
  · replace h := ifp c1 h
    refine J_iconst (v := (0 : Int32)) (pc := 27) dX2_codeAt_27 (by decide) ?_
    cases h
    exact J_ireturn dX2_codeAt_28 rfl rfl rfl rfl rfl
  · replace h := ifn c1 h
    refine J_iload_n (pc := 4) dX2_codeAt_4 rfl 1 rfl ?_
    refine J_aload_n (pc := 5) dX2_codeAt_5 rfl 0 rfl ?_
    refine J_get (c := 51) (ci := 2) (v := .int (M.1 51 1)) (pc := 6) rfl (by decide) rfl lay_X2 1 (by decide) w_209 rfl rfl dX2_codeAt_6 ?_
    refine J_icmp_ge (pc := 9) (tgt := 27) dX2_codeAt_9 (by decide) (fun c2 => ?_) (fun c2 => ?_)
    · replace h := ifp c2 h
      refine J_iconst (v := (0 : Int32)) (pc := 27) dX2_codeAt_27 (by decide) ?_
      cases h
      exact J_ireturn dX2_codeAt_28 rfl rfl rfl rfl rfl
    · replace h := ifn c2 h
      refine J_iload_n (pc := 12) dX2_codeAt_12 rfl 1 rfl ?_
      refine J_bipush (v := (60 : Int32)) (pc := 13) dX2_codeAt_13 (by decide) ?_
      refine J_icmp_ge (pc := 15) (tgt := 27) dX2_codeAt_15 (by decide) (fun c3 => ?_) (fun c3 => ?_)
      · replace h := ifp c3 h
        refine J_iconst (v := (0 : Int32)) (pc := 27) dX2_codeAt_27 (by decide) ?_
        cases h
        exact J_ireturn dX2_codeAt_28 rfl rfl rfl rfl rfl
      · replace h := ifn c3 h
        refine J_aload_n (pc := 18) dX2_codeAt_18 rfl 0 rfl ?_
        refine J_get (c := 51) (ci := 2) (v := .ref 52) (pc := 19) rfl (by decide) rfl lay_X2 0 (by decide) w_208 rfl rfl dX2_codeAt_19 ?_
        refine J_iload_n (pc := 22) dX2_codeAt_22 rfl 1 rfl ?_
        obtain ⟨v4, e5, hk6, h⟩ := ldi_e h
        refine J_iald (c := 52) (N := 60) (pc := 23) rfl (by decide) hk6 dX2_codeAt_23 ?_
        refine J_topi e5 ?_
        refine J_goto (pc := 24) (tgt := 28) dX2_codeAt_24 (by decide) ?_
        cases h
        exact J_ireturn dX2_codeAt_28 rfl rfl rfl rfl rfl
set_option maxHeartbeats 4000000 in
set_option maxRecDepth 100000 in
theorem k_X2_digitAt {E : En} (a1 : Int32) (M : Wd) {r : Int32} (h : F_X2_digitAt a1 M = some r) : Con E mi_X2_digitAt [.ref 51, .int a1] M (.inl (some (.int r))) M := by
  unfold F_X2_digitAt at h
  refine Con.of (by decide) rfl (by decide) (fun κ => ?_)
  show J κ E mi_X2_digitAt _ 0 0 [(0, .ref 51), (1, .int a1)] M 0 []
  refine J_aload_n (pc := 0) dX2_digitAt_0 rfl 0 rfl ?_
  refine J_iload_n (pc := 1) dX2_digitAt_1 rfl 1 rfl ?_
  obtain ⟨v1, hc2, h⟩ := obind_e h
  refine J_callV (g := mi_X2_codeAt) (ci := 2) (pc := 2) [.int a1] [] mv_X2_codeAt w_288 (k_X2_codeAt a1 _ hc2) rfl (by decide) rfl rfl rfl ⟨⟨Nat.le_of_ble_eq_true rfl, Nat.le_of_ble_eq_true rfl⟩, Nat.le_of_ble_eq_true rfl, Nat.le_of_ble_eq_true rfl⟩ (Nat.le_of_ble_eq_true rfl) dX2_digitAt_2 (Jk_v rfl rfl fun hok3 => ?_)
  refine J_bipush (v := (48 : Int32)) (pc := 5) dX2_digitAt_5 (by decide) ?_
  refine J_isub (pc := 7) dX2_digitAt_7 ?_
  cases h
  exact J_ireturn dX2_digitAt_8 rfl rfl rfl rfl rfl
set_option maxHeartbeats 4000000 in
set_option maxRecDepth 100000 in
theorem k_X2_signAt {E : En} (a1 : Int32) (M : Wd) {r : Int32} (h : F_X2_signAt a1 M = some r) : Con E mi_X2_signAt [.ref 51, .int a1] M (.inl (some (.int r))) M := by
  unfold F_X2_signAt at h
  refine Con.of (by decide) rfl (by decide) (fun κ => ?_)
  show J κ E mi_X2_signAt _ 0 0 [(0, .ref 51), (1, .int a1)] M 0 []
  refine J_aload_n (pc := 0) dX2_signAt_0 rfl 0 rfl ?_
  refine J_iload_n (pc := 1) dX2_signAt_1 rfl 1 rfl ?_
  obtain ⟨v1, hc2, h⟩ := obind_e h
  refine J_callV (g := mi_X2_codeAt) (ci := 2) (pc := 2) [.int a1] [] mv_X2_codeAt w_288 (k_X2_codeAt a1 _ hc2) rfl (by decide) rfl rfl rfl ⟨⟨Nat.le_of_ble_eq_true rfl, Nat.le_of_ble_eq_true rfl⟩, Nat.le_of_ble_eq_true rfl, Nat.le_of_ble_eq_true rfl⟩ (Nat.le_of_ble_eq_true rfl) dX2_signAt_2 (Jk_v rfl rfl fun hok3 => ?_)
  refine J_bipush (v := (45 : Int32)) (pc := 5) dX2_signAt_5 (by decide) ?_
  refine J_icmp_ne (pc := 7) (tgt := 14) dX2_signAt_7 (by decide) (fun c4 => ?_) (fun c4 => ?_)
  · replace h := ifn c4 h
    refine J_iconst (v := (1 : Int32)) (pc := 14) dX2_signAt_14 (by decide) ?_
    cases h
    exact J_ireturn dX2_signAt_15 rfl rfl rfl rfl rfl
  · replace h := ifp c4 h
    refine J_iconst (v := (-1 : Int32)) (pc := 10) dX2_signAt_10 (by decide) ?_
    refine J_goto (pc := 11) (tgt := 15) dX2_signAt_11 (by decide) ?_
    cases h
    exact J_ireturn dX2_signAt_15 rfl rfl rfl rfl rfl
set_option maxHeartbeats 4000000 in
set_option maxRecDepth 100000 in
theorem k_X2_isAmong {E : En} (a0 : Int32) (a1 : Int32) (a2 : Int32) (M : Wd) : Con E mi_X2_isAmong [.int a0, .int a1, .int a2] M (.inl (some (.int (F_X2_isAmong a0 a1 a2)))) M := by
  obtain ⟨r, h⟩ : ∃ r, F_X2_isAmong a0 a1 a2 = r := ⟨_, rfl⟩
  rw [h]
  unfold F_X2_isAmong at h
  refine Con.of (by decide) rfl (by decide) (fun κ => ?_)
  show J κ E mi_X2_isAmong _ 0 0 [(0, .int a0), (1, .int a1), (2, .int a2)] M 0 []
  refine J_iload_n (pc := 0) dX2_isAmong_0 rfl 0 rfl ?_
  refine J_iload_n (pc := 1) dX2_isAmong_1 rfl 1 rfl ?_
  refine J_icmp_lt (pc := 2) (tgt := 14) dX2_isAmong_2 (by decide) (fun c1 => ?_) (fun c1 => ?_)
  · replace h := ifp c1 h
    refine J_iconst (v := (0 : Int32)) (pc := 14) dX2_isAmong_14 (by decide) ?_
    subst h
    exact J_zreturn dX2_isAmong_15 rfl (Or.inl rfl) rfl rfl rfl rfl
  · replace h := ifn c1 h
    refine J_iload_n (pc := 5) dX2_isAmong_5 rfl 0 rfl ?_
    refine J_iload_n (pc := 6) dX2_isAmong_6 rfl 2 rfl ?_
    refine J_icmp_gt (pc := 7) (tgt := 14) dX2_isAmong_7 (by decide) (fun c2 => ?_) (fun c2 => ?_)
    · replace h := ifp c2 h
      refine J_iconst (v := (0 : Int32)) (pc := 14) dX2_isAmong_14 (by decide) ?_
      subst h
      exact J_zreturn dX2_isAmong_15 rfl (Or.inl rfl) rfl rfl rfl rfl
    · replace h := ifn c2 h
      refine J_iconst (v := (1 : Int32)) (pc := 10) dX2_isAmong_10 (by decide) ?_
      refine J_goto (pc := 11) (tgt := 15) dX2_isAmong_11 (by decide) ?_
      subst h
      exact J_zreturn dX2_isAmong_15 rfl (Or.inr rfl) rfl rfl rfl rfl
set_option maxHeartbeats 4000000 in
set_option maxRecDepth 100000 in
theorem k_X2_cellAt {E : En} (a1 : Int32) (M : Wd) {r : Int32} (h : F_X2_cellAt a1 M = some r) : Con E mi_X2_cellAt [.ref 51, .int a1] M (.inl (some (.int r))) M := by
  unfold F_X2_cellAt at h
  refine Con.of (by decide) rfl (by decide) (fun κ => ?_)
  show J κ E mi_X2_cellAt _ 0 0 [(0, .ref 51), (1, .int a1)] M 0 []
  refine J_aload_n (pc := 0) dX2_cellAt_0 rfl 0 rfl ?_
  refine J_iload_n (pc := 1) dX2_cellAt_1 rfl 1 rfl ?_
  refine J_iconst (v := (1 : Int32)) (pc := 2) dX2_cellAt_2 (by decide) ?_
  refine J_iadd (pc := 3) dX2_cellAt_3 ?_
  obtain ⟨v1, hc2, h⟩ := obind_e h
  refine J_callV (g := mi_X2_codeAt) (ci := 2) (pc := 4) [.int (a1 + (1 : Int32))] [] mv_X2_codeAt w_288 (k_X2_codeAt (a1 + (1 : Int32)) _ hc2) rfl (by decide) rfl rfl rfl ⟨⟨Nat.le_of_ble_eq_true rfl, Nat.le_of_ble_eq_true rfl⟩, Nat.le_of_ble_eq_true rfl, Nat.le_of_ble_eq_true rfl⟩ (Nat.le_of_ble_eq_true rfl) dX2_cellAt_4 (Jk_v rfl rfl fun hok3 => ?_)
  refine J_bipush (v := (48 : Int32)) (pc := 7) dX2_cellAt_7 (by decide) ?_
  refine J_bipush (v := (57 : Int32)) (pc := 9) dX2_cellAt_9 (by decide) ?_
  refine J_callS (g := mi_X2_isAmong) (pc := 11) [.int v1, .int (48 : Int32), .int (57 : Int32)] [] ms_X2_isAmong w_298 (k_X2_isAmong v1 (48 : Int32) (57 : Int32) _) rfl rfl ⟨⟨Nat.le_of_ble_eq_true rfl, Nat.le_of_ble_eq_true rfl⟩, Nat.le_of_ble_eq_true rfl, Nat.le_of_ble_eq_true rfl⟩ (Nat.le_of_ble_eq_true rfl) dX2_cellAt_11 (Jk_v rfl rfl fun hok4 => ?_)
  obtain ⟨v5, e6, h⟩ := bnd_e h
  refine J_topi e6 ?_
  refine J_istore_n (pc := 14) dX2_cellAt_14 rfl (Nat.le_of_ble_eq_true rfl) [1, 2, 0] rfl ?_
  refine J_iload_n (pc := 15) dX2_cellAt_15 rfl 2 rfl ?_
  refine J_if_eq (pc := 16) (tgt := 38) dX2_cellAt_16 (by decide) (fun c7 => ?_) (fun c7 => ?_)
  · replace h := ifp c7 h
    refine J_aload_n (pc := 38) dX2_cellAt_38 rfl 0 rfl ?_
    refine J_iload_n (pc := 39) dX2_cellAt_39 rfl 1 rfl ?_
    obtain ⟨v8, hc9, h⟩ := obind_e h
    refine J_callV (g := mi_X2_digitAt) (ci := 2) (pc := 40) [.int a1] [] mv_X2_digitAt w_861 (k_X2_digitAt a1 _ hc9) rfl (by decide) rfl rfl rfl ⟨⟨Nat.le_of_ble_eq_true rfl, Nat.le_of_ble_eq_true rfl⟩, Nat.le_of_ble_eq_true rfl, Nat.le_of_ble_eq_true rfl⟩ (Nat.le_of_ble_eq_true rfl) dX2_cellAt_40 (Jk_v rfl rfl fun hok10 => ?_)
    cases h
    exact J_ireturn dX2_cellAt_43 rfl rfl rfl rfl rfl
  · replace h := ifn c7 h
    refine J_bipush (v := (10 : Int32)) (pc := 19) dX2_cellAt_19 (by decide) ?_
    refine J_aload_n (pc := 21) dX2_cellAt_21 rfl 0 rfl ?_
    refine J_iload_n (pc := 22) dX2_cellAt_22 rfl 1 rfl ?_
    obtain ⟨v11, hc12, h⟩ := obind_e h
    refine J_callV (g := mi_X2_digitAt) (ci := 2) (pc := 23) [.int a1] [.int (10 : Int32)] mv_X2_digitAt w_861 (k_X2_digitAt a1 _ hc12) rfl (by decide) rfl rfl rfl ⟨⟨Nat.le_of_ble_eq_true rfl, Nat.le_of_ble_eq_true rfl⟩, Nat.le_of_ble_eq_true rfl, Nat.le_of_ble_eq_true rfl⟩ (Nat.le_of_ble_eq_true rfl) dX2_cellAt_23 (Jk_v rfl rfl fun hok13 => ?_)
    refine J_imul (pc := 26) dX2_cellAt_26 ?_
    refine J_aload_n (pc := 27) dX2_cellAt_27 rfl 0 rfl ?_
    refine J_iload_n (pc := 28) dX2_cellAt_28 rfl 1 rfl ?_
    refine J_iconst (v := (1 : Int32)) (pc := 29) dX2_cellAt_29 (by decide) ?_
    refine J_iadd (pc := 30) dX2_cellAt_30 ?_
    obtain ⟨v14, hc15, h⟩ := obind_e h
    refine J_callV (g := mi_X2_digitAt) (ci := 2) (pc := 31) [.int (a1 + (1 : Int32))] [.int ((10 : Int32) * v11)] mv_X2_digitAt w_861 (k_X2_digitAt (a1 + (1 : Int32)) _ hc15) rfl (by decide) rfl rfl rfl ⟨⟨Nat.le_of_ble_eq_true rfl, Nat.le_of_ble_eq_true rfl⟩, Nat.le_of_ble_eq_true rfl, Nat.le_of_ble_eq_true rfl⟩ (Nat.le_of_ble_eq_true rfl) dX2_cellAt_31 (Jk_v rfl rfl fun hok16 => ?_)
    refine J_iadd (pc := 34) dX2_cellAt_34 ?_
    refine J_goto (pc := 35) (tgt := 43) dX2_cellAt_35 (by decide) ?_
    cases h
    exact J_ireturn dX2_cellAt_43 rfl rfl rfl rfl rfl
set_option maxHeartbeats 4000000 in
set_option maxRecDepth 100000 in
theorem kL_X2_nextPart_L2 {κ : Kx} {E : En} {Q : State → Prop} {k n : Nat} {ρ : Type} {r : ρ} (M : Wd) (K26 : Int32 → Option ρ) (hK26 : ∀ (x2 : Int32), K26 x2 = some r → J κ E mi_X2_nextPart Q k n [(2, .int x2)] M 26 []) : ∀ (m : Nat) (x2 : Int32), F_X2_nextPart_L2 M K26 m x2 = some r → J κ E mi_X2_nextPart Q k n [(0, .ref 51), (2, .int x2)] M 2 [] := by
  intro m
  induction m with
  | zero => intro x2 h; exact (nomatch (show (none : Option ρ) = some r from h))
  | succ m ih =>
    intro x2 h
    unfold F_X2_nextPart_L2 at h
    refine J_iload_n (pc := 2) dX2_nextPart_2 rfl 1 rfl ?_
    refine J_aload_n (pc := 3) dX2_nextPart_3 rfl 0 rfl ?_
    refine J_get (c := 51) (ci := 2) (v := .int (M.1 51 1)) (pc := 4) rfl (by decide) rfl lay_X2 1 (by decide) w_209 rfl rfl dX2_nextPart_4 ?_
    refine J_icmp_ge (pc := 7) (tgt := 26) dX2_nextPart_7 (by decide) (fun c1 => ?_) (fun c1 => ?_)
    · replace h := ifp c1 h
      refine J_sub [1] rfl ?_
      exact hK26 _ h
    · replace h := ifn c1 h
      refine J_aload_n (pc := 10) dX2_nextPart_10 rfl 0 rfl ?_
      refine J_iload_n (pc := 11) dX2_nextPart_11 rfl 1 rfl ?_
      obtain ⟨v2, hc3, h⟩ := obind_e h
      refine J_callV (g := mi_X2_codeAt) (ci := 2) (pc := 12) [.int x2] [] mv_X2_codeAt w_288 (k_X2_codeAt x2 _ hc3) rfl (by decide) rfl rfl rfl ⟨⟨Nat.le_of_ble_eq_true rfl, Nat.le_of_ble_eq_true rfl⟩, Nat.le_of_ble_eq_true rfl, Nat.le_of_ble_eq_true rfl⟩ (Nat.le_of_ble_eq_true rfl) dX2_nextPart_12 (Jk_v rfl rfl fun hok4 => ?_)
      refine J_bipush (v := (59 : Int32)) (pc := 15) dX2_nextPart_15 (by decide) ?_
      refine J_icmp_eq (pc := 17) (tgt := 26) dX2_nextPart_17 (by decide) (fun c5 => ?_) (fun c5 => ?_)
      · replace h := ifp c5 h
        refine J_sub [1] rfl ?_
        exact hK26 _ h
      · replace h := ifn c5 h
        obtain ⟨v6, e7, h⟩ := bnd_e h
        refine J_iinc (v := v6) (pc := 20) dX2_nextPart_20 1 rfl (by rw [e7]; rfl) (Nat.le_of_ble_eq_true rfl) [1, 0] rfl ?_
        refine J_goto (pc := 23) (tgt := 2) dX2_nextPart_23 (by decide) ?_
        exact ih _ h
set_option maxHeartbeats 4000000 in
set_option maxRecDepth 100000 in
theorem k_X2_nextPart {E : En} (a1 : Int32) (M : Wd) {r : Int32} (h : F_X2_nextPart a1 M = some r) : Con E mi_X2_nextPart [.ref 51, .int a1] M (.inl (some (.int r))) M := by
  unfold F_X2_nextPart at h
  refine Con.of (by decide) rfl (by decide) (fun κ => ?_)
  show J κ E mi_X2_nextPart _ 0 0 [(0, .ref 51), (1, .int a1)] M 0 []
  refine J_iload_n (pc := 0) dX2_nextPart_0 rfl 1 rfl ?_
  refine J_istore_n (pc := 1) dX2_nextPart_1 rfl (Nat.le_of_ble_eq_true rfl) [1, 2, 0] rfl ?_
  refine J_sub [0, 2] rfl ?_
  refine kL_X2_nextPart_L2 _ _ (fun v8 h => ?_) fuelN _ h
  refine J_iload_n (pc := 26) dX2_nextPart_26 rfl 0 rfl ?_
  refine J_iconst (v := (1 : Int32)) (pc := 27) dX2_nextPart_27 (by decide) ?_
  refine J_iadd (pc := 28) dX2_nextPart_28 ?_
  cases h
  exact J_ireturn dX2_nextPart_29 rfl rfl rfl rfl rfl
set_option maxHeartbeats 4000000 in
set_option maxRecDepth 100000 in
theorem k_X2_behindBegin {E : En} (a0 : Int32) (M : Wd) : Con E mi_X2_behindBegin [.int a0] M (.inl (some (.int (F_X2_behindBegin a0)))) M := by
  obtain ⟨r, h⟩ : ∃ r, F_X2_behindBegin a0 = r := ⟨_, rfl⟩
  rw [h]
  unfold F_X2_behindBegin at h
  refine Con.of (by decide) rfl (by decide) (fun κ => ?_)
  show J κ E mi_X2_behindBegin _ 0 0 [(0, .int a0)] M 0 []
  refine J_iload_n (pc := 0) dX2_behindBegin_0 rfl 0 rfl ?_
  refine J_bipush (v := (104 : Int32)) (pc := 1) dX2_behindBegin_1 (by decide) ?_
  refine J_icmp_eq (pc := 3) (tgt := 12) dX2_behindBegin_3 (by decide) (fun c1 => ?_) (fun c1 => ?_)
  · replace h := ifp c1 h
    refine J_iconst (v := (1 : Int32)) (pc := 12) dX2_behindBegin_12 (by decide) ?_
    subst h
    exact J_ireturn dX2_behindBegin_13 rfl rfl rfl rfl rfl
  · replace h := ifn c1 h
    refine J_iload_n (pc := 6) dX2_behindBegin_6 rfl 0 rfl ?_
    refine J_bipush (v := (118 : Int32)) (pc := 7) dX2_behindBegin_7 (by decide) ?_
    refine J_icmp_ne (pc := 9) (tgt := 14) dX2_behindBegin_9 (by decide) (fun c2 => ?_) (fun c2 => ?_)
    · replace h := ifn c2 h
      refine J_iload_n (pc := 14) dX2_behindBegin_14 rfl 0 rfl ?_
      refine J_bipush (v := (119 : Int32)) (pc := 15) dX2_behindBegin_15 (by decide) ?_
      refine J_icmp_ne (pc := 17) (tgt := 23) dX2_behindBegin_17 (by decide) (fun c3 => ?_) (fun c3 => ?_)
      · replace h := ifn c3 h
        refine J_iload_n (pc := 23) dX2_behindBegin_23 rfl 0 rfl ?_
        refine J_bipush (v := (98 : Int32)) (pc := 24) dX2_behindBegin_24 (by decide) ?_
        refine J_icmp_eq (pc := 26) (tgt := 35) dX2_behindBegin_26 (by decide) (fun c4 => ?_) (fun c4 => ?_)
        · replace h := ifp c4 h
          refine J_bipush (v := (11 : Int32)) (pc := 35) dX2_behindBegin_35 (by decide) ?_
          subst h
          exact J_ireturn dX2_behindBegin_37 rfl rfl rfl rfl rfl
        · replace h := ifn c4 h
          refine J_iload_n (pc := 29) dX2_behindBegin_29 rfl 0 rfl ?_
          refine J_bipush (v := (100 : Int32)) (pc := 30) dX2_behindBegin_30 (by decide) ?_
          refine J_icmp_ne (pc := 32) (tgt := 38) dX2_behindBegin_32 (by decide) (fun c5 => ?_) (fun c5 => ?_)
          · replace h := ifn c5 h
            refine J_iload_n (pc := 38) dX2_behindBegin_38 rfl 0 rfl ?_
            refine J_bipush (v := (48 : Int32)) (pc := 39) dX2_behindBegin_39 (by decide) ?_
            refine J_bipush (v := (53 : Int32)) (pc := 41) dX2_behindBegin_41 (by decide) ?_
            refine J_callS (g := mi_X2_isAmong) (pc := 43) [.int a0, .int (48 : Int32), .int (53 : Int32)] [] ms_X2_isAmong w_298 (k_X2_isAmong a0 (48 : Int32) (53 : Int32) _) rfl rfl ⟨⟨Nat.le_of_ble_eq_true rfl, Nat.le_of_ble_eq_true rfl⟩, Nat.le_of_ble_eq_true rfl, Nat.le_of_ble_eq_true rfl⟩ (Nat.le_of_ble_eq_true rfl) dX2_behindBegin_43 (Jk_v rfl rfl fun hok6 => ?_)
            refine J_if_eq (pc := 46) (tgt := 54) dX2_behindBegin_46 (by decide) (fun c7 => ?_) (fun c7 => ?_)
            · replace h := ifp c7 h
              refine J_bipush (v := (12 : Int32)) (pc := 54) dX2_behindBegin_54 (by decide) ?_
              subst h
              exact J_ireturn dX2_behindBegin_56 rfl rfl rfl rfl rfl
            · replace h := ifn c7 h
              refine J_bipush (v := (6 : Int32)) (pc := 49) dX2_behindBegin_49 (by decide) ?_
              refine J_goto (pc := 51) (tgt := 56) dX2_behindBegin_51 (by decide) ?_
              subst h
              exact J_ireturn dX2_behindBegin_56 rfl rfl rfl rfl rfl
          · replace h := ifp c5 h
            refine J_bipush (v := (11 : Int32)) (pc := 35) dX2_behindBegin_35 (by decide) ?_
            subst h
            exact J_ireturn dX2_behindBegin_37 rfl rfl rfl rfl rfl
      · replace h := ifp c3 h
        refine J_bipush (v := (8 : Int32)) (pc := 20) dX2_behindBegin_20 (by decide) ?_
        subst h
        exact J_ireturn dX2_behindBegin_22 rfl rfl rfl rfl rfl
    · replace h := ifp c2 h
      refine J_iconst (v := (1 : Int32)) (pc := 12) dX2_behindBegin_12 (by decide) ?_
      subst h
      exact J_ireturn dX2_behindBegin_13 rfl rfl rfl rfl rfl
set_option maxHeartbeats 4000000 in
set_option maxRecDepth 100000 in
theorem k_X2_behindEnd {E : En} (a0 : Int32) (M : Wd) : Con E mi_X2_behindEnd [.int a0] M (.inl (some (.int (F_X2_behindEnd a0)))) M := by
  obtain ⟨r, h⟩ : ∃ r, F_X2_behindEnd a0 = r := ⟨_, rfl⟩
  rw [h]
  unfold F_X2_behindEnd at h
  refine Con.of (by decide) rfl (by decide) (fun κ => ?_)
  show J κ E mi_X2_behindEnd _ 0 0 [(0, .int a0)] M 0 []
  refine J_iload_n (pc := 0) dX2_behindEnd_0 rfl 0 rfl ?_
  refine J_bipush (v := (59 : Int32)) (pc := 1) dX2_behindEnd_1 (by decide) ?_
  refine J_icmp_ne (pc := 3) (tgt := 10) dX2_behindEnd_3 (by decide) (fun c1 => ?_) (fun c1 => ?_)
  · replace h := ifn c1 h
    refine J_bipush (v := (12 : Int32)) (pc := 10) dX2_behindEnd_10 (by decide) ?_
    subst h
    exact J_ireturn dX2_behindEnd_12 rfl rfl rfl rfl rfl
  · replace h := ifp c1 h
    refine J_iconst (v := (0 : Int32)) (pc := 6) dX2_behindEnd_6 (by decide) ?_
    refine J_goto (pc := 7) (tgt := 12) dX2_behindEnd_7 (by decide) ?_
    subst h
    exact J_ireturn dX2_behindEnd_12 rfl rfl rfl rfl rfl

/-! ===== walks of the methods, 16 ===== -/
set_option maxHeartbeats 4000000 in
set_option maxRecDepth 100000 in
theorem k_X4_addsPlans {E : En} (M : Wd) {M' : Wd} (h : F_X4_addsPlans M = some M') : Con E mi_X4_addsPlans [.ref 53] M (.inl none) M' := by
  unfold F_X4_addsPlans at h
  refine Con.of (by decide) rfl (Nat.le_of_ble_eq_true rfl) (fun κ => ?_)
  show J κ E mi_X4_addsPlans _ 0 0 [(0, .ref 53)] M 0 []
  refine J_aload_n (pc := 0) dX4_addsPlans_0 rfl 0 rfl ?_
  refine J_aload_n (pc := 1) dX4_addsPlans_1 rfl 0 rfl ?_
  refine J_iconst (v := (3 : Int32)) (pc := 2) dX4_addsPlans_2 (by decide) ?_
  obtain ⟨v1, M2, hc3, h⟩ := obind2_e h
  refine J_callV (g := mi_X4_fewest) (ci := 4) (pc := 3) [.int (3 : Int32)] [.ref 53] mv_X4_fewest w_1449 (k_X4_fewest (3 : Int32) _ hc3) rfl (by decide) rfl rfl rfl ⟨⟨Nat.le_of_ble_eq_true rfl, Nat.le_of_ble_eq_true rfl⟩, Nat.le_of_ble_eq_true rfl, Nat.le_of_ble_eq_true rfl⟩ (Nat.le_of_ble_eq_true rfl) dX4_addsPlans_3 (Jk_v rfl rfl fun hok4 => ?_)
  refine J_i2l (pc := 6) dX4_addsPlans_6 ?_
  obtain ⟨M5, hc6, h⟩ := obind_e h
  refine J_callV (g := mi_X4_adds) (ci := 4) (pc := 7) [.long v1.toInt64] [] mv_X4_adds w_1554 (k_X4_adds v1.toInt64 _ hc6) rfl (by decide) rfl rfl rfl ⟨⟨Nat.le_of_ble_eq_true rfl, Nat.le_of_ble_eq_true rfl⟩, Nat.le_of_ble_eq_true rfl, Nat.le_of_ble_eq_true rfl⟩ (Nat.le_of_ble_eq_true rfl) dX4_addsPlans_7 (Jk_0 rfl rfl ?_)
  refine J_aload_n (pc := 10) dX4_addsPlans_10 rfl 0 rfl ?_
  refine J_aload_n (pc := 11) dX4_addsPlans_11 rfl 0 rfl ?_
  obtain ⟨v7, M8, hc9, h⟩ := obind2_e h
  refine J_callV (g := mi_X4_fewestEnds) (ci := 4) (pc := 12) [] [.ref 53] mv_X4_fewestEnds w_1465 (k_X4_fewestEnds _ hc9) rfl (by decide) rfl rfl rfl ⟨⟨Nat.le_of_ble_eq_true rfl, Nat.le_of_ble_eq_true rfl⟩, Nat.le_of_ble_eq_true rfl, Nat.le_of_ble_eq_true rfl⟩ (Nat.le_of_ble_eq_true rfl) dX4_addsPlans_12 (Jk_v rfl rfl fun hok10 => ?_)
  refine J_i2l (pc := 15) dX4_addsPlans_15 ?_
  obtain ⟨M11, hc12, h⟩ := obind_e h
  refine J_callV (g := mi_X4_adds) (ci := 4) (pc := 16) [.long v7.toInt64] [] mv_X4_adds w_1554 (k_X4_adds v7.toInt64 _ hc12) rfl (by decide) rfl rfl rfl ⟨⟨Nat.le_of_ble_eq_true rfl, Nat.le_of_ble_eq_true rfl⟩, Nat.le_of_ble_eq_true rfl, Nat.le_of_ble_eq_true rfl⟩ (Nat.le_of_ble_eq_true rfl) dX4_addsPlans_16 (Jk_0 rfl rfl ?_)
  refine J_aload_n (pc := 19) dX4_addsPlans_19 rfl 0 rfl ?_
  refine J_aload_n (pc := 20) dX4_addsPlans_20 rfl 0 rfl ?_
  refine J_iconst (v := (1 : Int32)) (pc := 21) dX4_addsPlans_21 (by decide) ?_
  obtain ⟨v13, M14, hc15, h⟩ := obind2_e h
  refine J_callV (g := mi_X4_fewest) (ci := 4) (pc := 22) [.int (1 : Int32)] [.ref 53] mv_X4_fewest w_1449 (k_X4_fewest (1 : Int32) _ hc15) rfl (by decide) rfl rfl rfl ⟨⟨Nat.le_of_ble_eq_true rfl, Nat.le_of_ble_eq_true rfl⟩, Nat.le_of_ble_eq_true rfl, Nat.le_of_ble_eq_true rfl⟩ (Nat.le_of_ble_eq_true rfl) dX4_addsPlans_22 (Jk_v rfl rfl fun hok16 => ?_)
  refine J_i2l (pc := 25) dX4_addsPlans_25 ?_
  obtain ⟨M17, hc18, h⟩ := obind_e h
  refine J_callV (g := mi_X4_adds) (ci := 4) (pc := 26) [.long v13.toInt64] [] mv_X4_adds w_1554 (k_X4_adds v13.toInt64 _ hc18) rfl (by decide) rfl rfl rfl ⟨⟨Nat.le_of_ble_eq_true rfl, Nat.le_of_ble_eq_true rfl⟩, Nat.le_of_ble_eq_true rfl, Nat.le_of_ble_eq_true rfl⟩ (Nat.le_of_ble_eq_true rfl) dX4_addsPlans_26 (Jk_0 rfl rfl ?_)
  refine J_aload_n (pc := 29) dX4_addsPlans_29 rfl 0 rfl ?_
  obtain ⟨v19, M20, hc21, h⟩ := obind2_e h
  refine J_callV (g := mi_X4_cheapest) (ci := 4) (pc := 30) [] [] mv_X4_cheapest w_1477 (k_X4_cheapest _ hc21) rfl (by decide) rfl rfl rfl ⟨⟨Nat.le_of_ble_eq_true rfl, Nat.le_of_ble_eq_true rfl⟩, Nat.le_of_ble_eq_true rfl, Nat.le_of_ble_eq_true rfl⟩ (Nat.le_of_ble_eq_true rfl) dX4_addsPlans_30 (Jk_v rfl rfl fun hok22 => ?_)
  refine J_istore_n (pc := 33) dX4_addsPlans_33 rfl (Nat.le_of_ble_eq_true rfl) [1, 0] rfl ?_
  refine J_aload_n (pc := 34) dX4_addsPlans_34 rfl 0 rfl ?_
  refine J_iload_n (pc := 35) dX4_addsPlans_35 rfl 1 rfl ?_
  refine J_i2l (pc := 36) dX4_addsPlans_36 ?_
  obtain ⟨M23, hc24, h⟩ := obind_e h
  refine J_callV (g := mi_X4_adds) (ci := 4) (pc := 37) [.long v19.toInt64] [] mv_X4_adds w_1554 (k_X4_adds v19.toInt64 _ hc24) rfl (by decide) rfl rfl rfl ⟨⟨Nat.le_of_ble_eq_true rfl, Nat.le_of_ble_eq_true rfl⟩, Nat.le_of_ble_eq_true rfl, Nat.le_of_ble_eq_true rfl⟩ (Nat.le_of_ble_eq_true rfl) dX4_addsPlans_37 (Jk_0 rfl rfl ?_)
  refine J_aload_n (pc := 40) dX4_addsPlans_40 rfl 0 rfl ?_
  refine J_iload_n (pc := 41) dX4_addsPlans_41 rfl 1 rfl ?_
  refine J_i2l (pc := 42) dX4_addsPlans_42 ?_
  obtain ⟨M25, hc26, h⟩ := obind_e h
  refine J_callV (g := mi_X4_adds) (ci := 4) (pc := 43) [.long v19.toInt64] [] mv_X4_adds w_1554 (k_X4_adds v19.toInt64 _ hc26) rfl (by decide) rfl rfl rfl ⟨⟨Nat.le_of_ble_eq_true rfl, Nat.le_of_ble_eq_true rfl⟩, Nat.le_of_ble_eq_true rfl, Nat.le_of_ble_eq_true rfl⟩ (Nat.le_of_ble_eq_true rfl) dX4_addsPlans_43 (Jk_0 rfl rfl ?_)
  refine J_aload_n (pc := 46) dX4_addsPlans_46 rfl 0 rfl ?_
  refine J_aload_n (pc := 47) dX4_addsPlans_47 rfl 0 rfl ?_
  refine J_iconst (v := (0 : Int32)) (pc := 48) dX4_addsPlans_48 (by decide) ?_
  obtain ⟨v27, M28, hc29, h⟩ := obind2_e h
  refine J_callV (g := mi_X4_reached) (ci := 4) (pc := 49) [.int (0 : Int32)] [.ref 53] mv_X4_reached w_1509 (k_X4_reached (0 : Int32) _ hc29) rfl (by decide) rfl rfl rfl ⟨⟨Nat.le_of_ble_eq_true rfl, Nat.le_of_ble_eq_true rfl⟩, Nat.le_of_ble_eq_true rfl, Nat.le_of_ble_eq_true rfl⟩ (Nat.le_of_ble_eq_true rfl) dX4_addsPlans_49 (Jk_v rfl rfl fun hok30 => ?_)
  refine J_i2l (pc := 52) dX4_addsPlans_52 ?_
  obtain ⟨M31, hc32, h⟩ := obind_e h
  refine J_callV (g := mi_X4_adds) (ci := 4) (pc := 53) [.long v27.toInt64] [] mv_X4_adds w_1554 (k_X4_adds v27.toInt64 _ hc32) rfl (by decide) rfl rfl rfl ⟨⟨Nat.le_of_ble_eq_true rfl, Nat.le_of_ble_eq_true rfl⟩, Nat.le_of_ble_eq_true rfl, Nat.le_of_ble_eq_true rfl⟩ (Nat.le_of_ble_eq_true rfl) dX4_addsPlans_53 (Jk_0 rfl rfl ?_)
  refine J_aload_n (pc := 56) dX4_addsPlans_56 rfl 0 rfl ?_
  refine J_aload_n (pc := 57) dX4_addsPlans_57 rfl 0 rfl ?_
  refine J_iconst (v := (1 : Int32)) (pc := 58) dX4_addsPlans_58 (by decide) ?_
  obtain ⟨v33, M34, hc35, h⟩ := obind2_e h
  refine J_callV (g := mi_X4_reached) (ci := 4) (pc := 59) [.int (1 : Int32)] [.ref 53] mv_X4_reached w_1509 (k_X4_reached (1 : Int32) _ hc35) rfl (by decide) rfl rfl rfl ⟨⟨Nat.le_of_ble_eq_true rfl, Nat.le_of_ble_eq_true rfl⟩, Nat.le_of_ble_eq_true rfl, Nat.le_of_ble_eq_true rfl⟩ (Nat.le_of_ble_eq_true rfl) dX4_addsPlans_59 (Jk_v rfl rfl fun hok36 => ?_)
  refine J_i2l (pc := 62) dX4_addsPlans_62 ?_
  obtain ⟨M37, hc38, h⟩ := obind_e h
  refine J_callV (g := mi_X4_adds) (ci := 4) (pc := 63) [.long v33.toInt64] [] mv_X4_adds w_1554 (k_X4_adds v33.toInt64 _ hc38) rfl (by decide) rfl rfl rfl ⟨⟨Nat.le_of_ble_eq_true rfl, Nat.le_of_ble_eq_true rfl⟩, Nat.le_of_ble_eq_true rfl, Nat.le_of_ble_eq_true rfl⟩ (Nat.le_of_ble_eq_true rfl) dX4_addsPlans_63 (Jk_0 rfl rfl ?_)
  refine J_aload_n (pc := 66) dX4_addsPlans_66 rfl 0 rfl ?_
  refine J_aload_n (pc := 67) dX4_addsPlans_67 rfl 0 rfl ?_
  refine J_iconst (v := (2 : Int32)) (pc := 68) dX4_addsPlans_68 (by decide) ?_
  obtain ⟨v39, M40, hc41, h⟩ := obind2_e h
  refine J_callV (g := mi_X4_reached) (ci := 4) (pc := 69) [.int (2 : Int32)] [.ref 53] mv_X4_reached w_1509 (k_X4_reached (2 : Int32) _ hc41) rfl (by decide) rfl rfl rfl ⟨⟨Nat.le_of_ble_eq_true rfl, Nat.le_of_ble_eq_true rfl⟩, Nat.le_of_ble_eq_true rfl, Nat.le_of_ble_eq_true rfl⟩ (Nat.le_of_ble_eq_true rfl) dX4_addsPlans_69 (Jk_v rfl rfl fun hok42 => ?_)
  refine J_i2l (pc := 72) dX4_addsPlans_72 ?_
  obtain ⟨M43, hc44, h⟩ := obind_e h
  refine J_callV (g := mi_X4_adds) (ci := 4) (pc := 73) [.long v39.toInt64] [] mv_X4_adds w_1554 (k_X4_adds v39.toInt64 _ hc44) rfl (by decide) rfl rfl rfl ⟨⟨Nat.le_of_ble_eq_true rfl, Nat.le_of_ble_eq_true rfl⟩, Nat.le_of_ble_eq_true rfl, Nat.le_of_ble_eq_true rfl⟩ (Nat.le_of_ble_eq_true rfl) dX4_addsPlans_73 (Jk_0 rfl rfl ?_)
  refine J_aload_n (pc := 76) dX4_addsPlans_76 rfl 0 rfl ?_
  refine J_aload_n (pc := 77) dX4_addsPlans_77 rfl 0 rfl ?_
  obtain ⟨v45, M46, hc47, h⟩ := obind2_e h
  refine J_callV (g := mi_X4_all) (ci := 4) (pc := 78) [] [.ref 53] mv_X4_all w_1525 (k_X4_all _ hc47) rfl (by decide) rfl rfl rfl ⟨⟨Nat.le_of_ble_eq_true rfl, Nat.le_of_ble_eq_true rfl⟩, Nat.le_of_ble_eq_true rfl, Nat.le_of_ble_eq_true rfl⟩ (Nat.le_of_ble_eq_true rfl) dX4_addsPlans_78 (Jk_v rfl rfl fun hok48 => ?_)
  refine J_i2l (pc := 81) dX4_addsPlans_81 ?_
  obtain ⟨M49, hc50, h⟩ := obind_e h
  refine J_callV (g := mi_X4_adds) (ci := 4) (pc := 82) [.long v45.toInt64] [] mv_X4_adds w_1554 (k_X4_adds v45.toInt64 _ hc50) rfl (by decide) rfl rfl rfl ⟨⟨Nat.le_of_ble_eq_true rfl, Nat.le_of_ble_eq_true rfl⟩, Nat.le_of_ble_eq_true rfl, Nat.le_of_ble_eq_true rfl⟩ (Nat.le_of_ble_eq_true rfl) dX4_addsPlans_82 (Jk_0 rfl rfl ?_)
  cases h
  exact J_return dX4_addsPlans_85 rfl rfl rfl rfl rfl
set_option maxHeartbeats 4000000 in
set_option maxRecDepth 100000 in
theorem k_Jxe99ae_isNaN_b9ae7 {E : En} (a0 : UInt64) (M : Wd) : Con E mi_Jxe99ae_isNaN_b9ae7 [.double a0] M (.inl (some (.int (F_Jxe99ae_isNaN_b9ae7 a0)))) M := by
  obtain ⟨r, h⟩ : ∃ r, F_Jxe99ae_isNaN_b9ae7 a0 = r := ⟨_, rfl⟩
  rw [h]
  unfold F_Jxe99ae_isNaN_b9ae7 at h
  refine Con.of (by decide) rfl (Nat.le_of_ble_eq_true rfl) (fun κ => ?_)
  show J κ E mi_Jxe99ae_isNaN_b9ae7 _ 0 0 [(0, .double a0)] M 0 []
  refine J_dload_n (pc := 0) dJxe99ae_isNaN_b9ae7_0 rfl 0 rfl ?_
  refine J_dload_n (pc := 1) dJxe99ae_isNaN_b9ae7_1 rfl 0 rfl ?_
  refine J_dcmp (pc := 2) dJxe99ae_isNaN_b9ae7_2 ?_
  refine J_if_eq (pc := 3) (tgt := 10) dJxe99ae_isNaN_b9ae7_3 (by decide) (fun c1 => ?_) (fun c1 => ?_)
  · replace h := ifp c1 h
    refine J_iconst (v := (0 : Int32)) (pc := 10) dJxe99ae_isNaN_b9ae7_10 (by decide) ?_
    subst h
    exact J_zreturn dJxe99ae_isNaN_b9ae7_11 rfl (Or.inl rfl) rfl rfl rfl rfl
  · replace h := ifn c1 h
    refine J_iconst (v := (1 : Int32)) (pc := 6) dJxe99ae_isNaN_b9ae7_6 (by decide) ?_
    refine J_goto (pc := 7) (tgt := 11) dJxe99ae_isNaN_b9ae7_7 (by decide) ?_
    subst h
    exact J_zreturn dJxe99ae_isNaN_b9ae7_11 rfl (Or.inr rfl) rfl rfl rfl rfl
set_option maxHeartbeats 4000000 in
set_option maxRecDepth 100000 in
theorem k_Jxe99ae_doubleToLongBits_ccdee {E : En} (a0 : UInt64) (M : Wd) : Con E mi_Jxe99ae_doubleToLongBits_ccdee [.double a0] M (.inl (some (.long (F_Jxe99ae_doubleToLongBits_ccdee a0)))) M := by
  obtain ⟨r, h⟩ : ∃ r, F_Jxe99ae_doubleToLongBits_ccdee a0 = r := ⟨_, rfl⟩
  rw [h]
  unfold F_Jxe99ae_doubleToLongBits_ccdee at h
  refine Con.of (by decide) rfl (Nat.le_of_ble_eq_true rfl) (fun κ => ?_)
  show J κ E mi_Jxe99ae_doubleToLongBits_ccdee _ 0 0 [(0, .double a0)] M 0 []
  refine J_dload_n (pc := 0) dJxe99ae_doubleToLongBits_ccdee_0 rfl 0 rfl ?_
  refine J_callS (g := mi_Jxe99ae_isNaN_b9ae7) (pc := 1) [.double a0] [] ms_Jxe99ae_isNaN_b9ae7 w_1570 (k_Jxe99ae_isNaN_b9ae7 a0 _) rfl rfl ⟨⟨Nat.le_of_ble_eq_true rfl, Nat.le_of_ble_eq_true rfl⟩, Nat.le_of_ble_eq_true rfl, Nat.le_of_ble_eq_true rfl⟩ (Nat.le_of_ble_eq_true rfl) dJxe99ae_doubleToLongBits_ccdee_1 (Jk_v rfl rfl fun hok1 => ?_)
  refine J_if_ne (pc := 4) (tgt := 12) dJxe99ae_doubleToLongBits_ccdee_4 (by decide) (fun c2 => ?_) (fun c2 => ?_)
  · replace h := ifn c2 h
    refine J_ldc2 (pc := 12) w_1576 dJxe99ae_doubleToLongBits_ccdee_12 ?_
    subst h
    exact J_lreturn dJxe99ae_doubleToLongBits_ccdee_15 rfl rfl rfl rfl rfl
  · replace h := ifp c2 h
    refine J_dload_n (pc := 7) dJxe99ae_doubleToLongBits_ccdee_7 rfl 0 rfl ?_
    refine J_d2raw (pc := 8) w_1573 w_1575 w_1574 w_94 (Nat.le_of_ble_eq_true rfl) (Nat.le_of_ble_eq_true rfl) dJxe99ae_doubleToLongBits_ccdee_8 ?_
    subst h
    exact J_lreturn dJxe99ae_doubleToLongBits_ccdee_11 rfl rfl rfl rfl rfl
set_option maxHeartbeats 4000000 in
set_option maxRecDepth 100000 in
theorem kL_X4_digest_L123 {κ : Kx} {E : En} {Q : State → Prop} {ρ : Type} {r : ρ} (K162 : Wd → Option ρ) (hK162 : ∀ (M : Wd), K162 M = some r → J κ E mi_X4_digest Q 0 0 [(0, .ref 53)] M 162 []) : ∀ (m : Nat) (x1 : Int32) (M : Wd), F_X4_digest_L123 K162 m x1 M = some r → J κ E mi_X4_digest Q 0 0 [(0, .ref 53), (1, .int x1)] M 123 [] := by
  intro m
  induction m with
  | zero => intro x1 M h; exact (nomatch (show (none : Option ρ) = some r from h))
  | succ m ih =>
    intro x1 M h
    unfold F_X4_digest_L123 at h
    refine J_iload_n (pc := 123) dX4_digest_123 rfl 1 rfl ?_
    refine J_bipush (v := (25 : Int32)) (pc := 124) dX4_digest_124 (by decide) ?_
    refine J_icmp_ge (pc := 126) (tgt := 162) dX4_digest_126 (by decide) (fun c43 => ?_) (fun c43 => ?_)
    · replace h := ifp c43 h
      refine J_sub [0] rfl ?_
      exact hK162 _ h
    · replace h := ifn c43 h
      refine J_aload_n (pc := 129) dX4_digest_129 rfl 0 rfl ?_
      refine J_aload_n (pc := 130) dX4_digest_130 rfl 0 rfl ?_
      refine J_iload_n (pc := 131) dX4_digest_131 rfl 1 rfl ?_
      obtain ⟨v44, hc45, h⟩ := obind_e h
      refine J_callV (g := mi_X4_carAt) (ci := 4) (pc := 132) [.int x1] [.ref 53] mv_X4_carAt w_1377 (k_X4_carAt x1 _ hc45) rfl (by decide) rfl rfl rfl ⟨⟨Nat.le_of_ble_eq_true rfl, Nat.le_of_ble_eq_true rfl⟩, Nat.le_of_ble_eq_true rfl, Nat.le_of_ble_eq_true rfl⟩ (Nat.le_of_ble_eq_true rfl) dX4_digest_132 (Jk_v rfl rfl fun hok46 => ?_)
      refine J_i2l (pc := 135) dX4_digest_135 ?_
      obtain ⟨M47, hc48, h⟩ := obind_e h
      refine J_callV (g := mi_X4_adds) (ci := 4) (pc := 136) [.long v44.toInt64] [] mv_X4_adds w_1554 (k_X4_adds v44.toInt64 _ hc48) rfl (by decide) rfl rfl rfl ⟨⟨Nat.le_of_ble_eq_true rfl, Nat.le_of_ble_eq_true rfl⟩, Nat.le_of_ble_eq_true rfl, Nat.le_of_ble_eq_true rfl⟩ (Nat.le_of_ble_eq_true rfl) dX4_digest_136 (Jk_0 rfl rfl ?_)
      refine J_aload_n (pc := 139) dX4_digest_139 rfl 0 rfl ?_
      refine J_aload_n (pc := 140) dX4_digest_140 rfl 0 rfl ?_
      refine J_iload_n (pc := 141) dX4_digest_141 rfl 1 rfl ?_
      refine J_callV (g := mi_X4_hasWall) (ci := 4) (pc := 142) [.int x1] [.ref 53] mv_X4_hasWall w_1151 (k_X4_hasWall x1 _) rfl (by decide) rfl rfl rfl ⟨⟨Nat.le_of_ble_eq_true rfl, Nat.le_of_ble_eq_true rfl⟩, Nat.le_of_ble_eq_true rfl, Nat.le_of_ble_eq_true rfl⟩ (Nat.le_of_ble_eq_true rfl) dX4_digest_142 (Jk_v rfl rfl fun hok49 => ?_)
      obtain ⟨v50, e51, h⟩ := bnd_e h
      refine J_join [(0, .ref 53), (1, .int x1)] M47 153 [.long v50, .ref 53] ?_ (fun hJ => ?_)
      · obtain ⟨M53, hc54, h⟩ := obind_e h
        refine J_callV (g := mi_X4_adds) (ci := 4) (pc := 153) [.long v50] [] mv_X4_adds w_1554 (k_X4_adds v50 _ hc54) rfl (by decide) rfl rfl rfl ⟨⟨Nat.le_of_ble_eq_true rfl, Nat.le_of_ble_eq_true rfl⟩, Nat.le_of_ble_eq_true rfl, Nat.le_of_ble_eq_true rfl⟩ (Nat.le_of_ble_eq_true rfl) dX4_digest_153 (Jk_0 rfl rfl ?_)
        obtain ⟨v55, e56, h⟩ := bnd_e h
        refine J_iinc (v := v55) (pc := 156) dX4_digest_156 1 rfl (by rw [e56]; rfl) (Nat.le_of_ble_eq_true rfl) [1, 0] rfl ?_
        refine J_goto (pc := 159) (tgt := 123) dX4_digest_159 (by decide) ?_
        exact ih _ _ h
      · refine J_if_eq (pc := 145) (tgt := 152) dX4_digest_145 (by decide) (fun c52 => ?_) (fun c52 => ?_)
        · refine J_lconst (v := (0 : Int64)) (pc := 152) dX4_digest_152 (by decide) ?_
          refine J_topl (y := v50) (by rw [e51, if_pos c52]) ?_
          exact hJ
        · refine J_lconst (v := (1 : Int64)) (pc := 148) dX4_digest_148 (by decide) ?_
          refine J_goto (pc := 149) (tgt := 153) dX4_digest_149 (by decide) ?_
          refine J_topl (y := v50) (by rw [e51, if_neg c52]) ?_
          exact hJ
set_option maxHeartbeats 4000000 in
set_option maxRecDepth 100000 in
theorem kL_X4_digest_L164 {κ : Kx} {E : En} {Q : State → Prop} {ρ : Type} {r : ρ} (K185 : Wd → Option ρ) (hK185 : ∀ (M : Wd), K185 M = some r → J κ E mi_X4_digest Q 0 0 [(0, .ref 53)] M 185 []) : ∀ (m : Nat) (x1 : Int32) (M : Wd), F_X4_digest_L164 K185 m x1 M = some r → J κ E mi_X4_digest Q 0 0 [(0, .ref 53), (1, .int x1)] M 164 [] := by
  intro m
  induction m with
  | zero => intro x1 M h; exact (nomatch (show (none : Option ρ) = some r from h))
  | succ m ih =>
    intro x1 M h
    unfold F_X4_digest_L164 at h
    refine J_iload_n (pc := 164) dX4_digest_164 rfl 1 rfl ?_
    refine J_aload_n (pc := 165) dX4_digest_165 rfl 0 rfl ?_
    refine get_53_3 (pc := 166) w_1026 dX4_digest_166 ?_
    refine J_iconst (v := (0 : Int32)) (pc := 169) dX4_digest_169 (by decide) ?_
    refine J_iald (c := 55) (N := 82) (pc := 170) ja_55 (Nat.le_of_ble_eq_true rfl) (vpc rfl) dX4_digest_170 ?_
    refine J_topi (x := M.1 55 (Int32.toNatClampNeg 0)) (y := (M.1 55 0)) (Eq.symm (a := M.1 55 (Int32.toNatClampNeg 0)) (show M.1 55 0 = (M.1 55 0) from rfl)) ?_
    refine J_icmp_ge (pc := 171) (tgt := 185) dX4_digest_171 (by decide) (fun c58 => ?_) (fun c58 => ?_)
    · replace h := ifp c58 h
      refine J_sub [0] rfl ?_
      exact hK185 _ h
    · replace h := ifn c58 h
      refine J_aload_n (pc := 174) dX4_digest_174 rfl 0 rfl ?_
      refine J_iload_n (pc := 175) dX4_digest_175 rfl 1 rfl ?_
      obtain ⟨M59, hc60, h⟩ := obind_e h
      refine J_callV (g := mi_X4_addsCar) (ci := 4) (pc := 176) [.int x1] [] mv_X4_addsCar w_1563 (k_X4_addsCar x1 _ hc60) rfl (by decide) rfl rfl rfl ⟨⟨Nat.le_of_ble_eq_true rfl, Nat.le_of_ble_eq_true rfl⟩, Nat.le_of_ble_eq_true rfl, Nat.le_of_ble_eq_true rfl⟩ (Nat.le_of_ble_eq_true rfl) dX4_digest_176 (Jk_0 rfl rfl ?_)
      obtain ⟨v61, e62, h⟩ := bnd_e h
      refine J_iinc (v := v61) (pc := 179) dX4_digest_179 1 rfl (by rw [e62]; rfl) (Nat.le_of_ble_eq_true rfl) [1, 0] rfl ?_
      refine J_goto (pc := 182) (tgt := 164) dX4_digest_182 (by decide) ?_
      exact ih _ _ h
set_option maxHeartbeats 4000000 in
set_option maxRecDepth 100000 in
theorem kL_X4_digest_L187 {κ : Kx} {E : En} {Q : State → Prop} {ρ : Type} {r : ρ} (K224 : Wd → Option ρ) (hK224 : ∀ (M : Wd), K224 M = some r → J κ E mi_X4_digest Q 0 0 [(0, .ref 53)] M 224 []) : ∀ (m : Nat) (x1 : Int32) (M : Wd), F_X4_digest_L187 K224 m x1 M = some r → J κ E mi_X4_digest Q 0 0 [(0, .ref 53), (1, .int x1)] M 187 [] := by
  intro m
  induction m with
  | zero => intro x1 M h; exact (nomatch (show (none : Option ρ) = some r from h))
  | succ m ih =>
    intro x1 M h
    unfold F_X4_digest_L187 at h
    refine J_iload_n (pc := 187) dX4_digest_187 rfl 1 rfl ?_
    refine J_aload_n (pc := 188) dX4_digest_188 rfl 0 rfl ?_
    refine get_53_3 (pc := 189) w_1026 dX4_digest_189 ?_
    refine J_bipush (v := (20 : Int32)) (pc := 192) dX4_digest_192 (by decide) ?_
    refine J_iald (c := 55) (N := 82) (pc := 194) ja_55 (Nat.le_of_ble_eq_true rfl) (vpc rfl) dX4_digest_194 ?_
    refine J_topi (x := M.1 55 (Int32.toNatClampNeg 20)) (y := (M.1 55 20)) (Eq.symm (a := M.1 55 (Int32.toNatClampNeg 20)) (show M.1 55 20 = (M.1 55 20) from rfl)) ?_
    refine J_icmp_ge (pc := 195) (tgt := 224) dX4_digest_195 (by decide) (fun c64 => ?_) (fun c64 => ?_)
    · replace h := ifp c64 h
      refine J_sub [0] rfl ?_
      exact hK224 _ h
    · replace h := ifn c64 h
      refine J_aload_n (pc := 198) dX4_digest_198 rfl 0 rfl ?_
      refine J_aload_n (pc := 199) dX4_digest_199 rfl 0 rfl ?_
      refine J_iload_n (pc := 200) dX4_digest_200 rfl 1 rfl ?_
      obtain ⟨v65, hc66, h⟩ := obind_e h
      refine J_callV (g := mi_X4_logCar) (ci := 4) (pc := 201) [.int x1] [.ref 53] mv_X4_logCar w_1194 (k_X4_logCar x1 _ hc66) rfl (by decide) rfl rfl rfl ⟨⟨Nat.le_of_ble_eq_true rfl, Nat.le_of_ble_eq_true rfl⟩, Nat.le_of_ble_eq_true rfl, Nat.le_of_ble_eq_true rfl⟩ (Nat.le_of_ble_eq_true rfl) dX4_digest_201 (Jk_v rfl rfl fun hok67 => ?_)
      refine J_i2l (pc := 204) dX4_digest_204 ?_
      obtain ⟨M68, hc69, h⟩ := obind_e h
      refine J_callV (g := mi_X4_adds) (ci := 4) (pc := 205) [.long v65.toInt64] [] mv_X4_adds w_1554 (k_X4_adds v65.toInt64 _ hc69) rfl (by decide) rfl rfl rfl ⟨⟨Nat.le_of_ble_eq_true rfl, Nat.le_of_ble_eq_true rfl⟩, Nat.le_of_ble_eq_true rfl, Nat.le_of_ble_eq_true rfl⟩ (Nat.le_of_ble_eq_true rfl) dX4_digest_205 (Jk_0 rfl rfl ?_)
      refine J_aload_n (pc := 208) dX4_digest_208 rfl 0 rfl ?_
      refine J_aload_n (pc := 209) dX4_digest_209 rfl 0 rfl ?_
      refine J_iload_n (pc := 210) dX4_digest_210 rfl 1 rfl ?_
      obtain ⟨v70, hc71, h⟩ := obind_e h
      refine J_callV (g := mi_X4_logBy) (ci := 4) (pc := 211) [.int x1] [.ref 53] mv_X4_logBy w_1198 (k_X4_logBy x1 _ hc71) rfl (by decide) rfl rfl rfl ⟨⟨Nat.le_of_ble_eq_true rfl, Nat.le_of_ble_eq_true rfl⟩, Nat.le_of_ble_eq_true rfl, Nat.le_of_ble_eq_true rfl⟩ (Nat.le_of_ble_eq_true rfl) dX4_digest_211 (Jk_v rfl rfl fun hok72 => ?_)
      refine J_i2l (pc := 214) dX4_digest_214 ?_
      obtain ⟨M73, hc74, h⟩ := obind_e h
      refine J_callV (g := mi_X4_adds) (ci := 4) (pc := 215) [.long v70.toInt64] [] mv_X4_adds w_1554 (k_X4_adds v70.toInt64 _ hc74) rfl (by decide) rfl rfl rfl ⟨⟨Nat.le_of_ble_eq_true rfl, Nat.le_of_ble_eq_true rfl⟩, Nat.le_of_ble_eq_true rfl, Nat.le_of_ble_eq_true rfl⟩ (Nat.le_of_ble_eq_true rfl) dX4_digest_215 (Jk_0 rfl rfl ?_)
      obtain ⟨v75, e76, h⟩ := bnd_e h
      refine J_iinc (v := v75) (pc := 218) dX4_digest_218 1 rfl (by rw [e76]; rfl) (Nat.le_of_ble_eq_true rfl) [1, 0] rfl ?_
      refine J_goto (pc := 221) (tgt := 187) dX4_digest_221 (by decide) ?_
      exact ih _ _ h
set_option maxHeartbeats 4000000 in
set_option maxRecDepth 100000 in
theorem kL_X4_digest_L289 {κ : Kx} {E : En} {Q : State → Prop} {ρ : Type} {r : ρ} (K314 : Wd → Option ρ) (hK314 : ∀ (M : Wd), K314 M = some r → J κ E mi_X4_digest Q 0 0 [(0, .ref 53)] M 314 []) : ∀ (m : Nat) (x1 : Int32) (M : Wd), F_X4_digest_L289 K314 m x1 M = some r → J κ E mi_X4_digest Q 0 0 [(0, .ref 53), (1, .int x1)] M 289 [] := by
  intro m
  induction m with
  | zero => intro x1 M h; exact (nomatch (show (none : Option ρ) = some r from h))
  | succ m ih =>
    intro x1 M h
    unfold F_X4_digest_L289 at h
    refine J_iload_n (pc := 289) dX4_digest_289 rfl 1 rfl ?_
    refine J_aload_n (pc := 290) dX4_digest_290 rfl 0 rfl ?_
    refine get_53_2 (pc := 291) w_1025 dX4_digest_291 ?_
    refine J_icmp_ge (pc := 294) (tgt := 314) dX4_digest_294 (by decide) (fun c97 => ?_) (fun c97 => ?_)
    · replace h := ifp c97 h
      refine J_sub [0] rfl ?_
      exact hK314 _ h
    · replace h := ifn c97 h
      refine J_aload_n (pc := 297) dX4_digest_297 rfl 0 rfl ?_
      refine J_aload_n (pc := 298) dX4_digest_298 rfl 0 rfl ?_
      refine get_53_1 (pc := 299) w_1024 dX4_digest_299 ?_
      refine J_iload_n (pc := 302) dX4_digest_302 rfl 1 rfl ?_
      obtain ⟨v98, e99, hk100, h⟩ := ldi_e h
      refine J_iald (c := 54) (N := 60) (pc := 303) ja_54 (Nat.le_of_ble_eq_true rfl) hk100 dX4_digest_303 ?_
      refine J_topi e99 ?_
      refine J_i2l (pc := 304) dX4_digest_304 ?_
      obtain ⟨M101, hc102, h⟩ := obind_e h
      refine J_callV (g := mi_X4_adds) (ci := 4) (pc := 305) [.long v98.toInt64] [] mv_X4_adds w_1554 (k_X4_adds v98.toInt64 _ hc102) rfl (by decide) rfl rfl rfl ⟨⟨Nat.le_of_ble_eq_true rfl, Nat.le_of_ble_eq_true rfl⟩, Nat.le_of_ble_eq_true rfl, Nat.le_of_ble_eq_true rfl⟩ (Nat.le_of_ble_eq_true rfl) dX4_digest_305 (Jk_0 rfl rfl ?_)
      obtain ⟨v103, e104, h⟩ := bnd_e h
      refine J_iinc (v := v103) (pc := 308) dX4_digest_308 1 rfl (by rw [e104]; rfl) (Nat.le_of_ble_eq_true rfl) [1, 0] rfl ?_
      refine J_goto (pc := 311) (tgt := 289) dX4_digest_311 (by decide) ?_
      exact ih _ _ h
set_option maxHeartbeats 4000000 in
set_option maxRecDepth 100000 in
theorem k_X4_digest {E : En} (M : Wd) {r : Int64} {M' : Wd} (h : F_X4_digest M = some (r, M')) : Con E mi_X4_digest [.ref 53] M (.inl (some (.long r))) M' := by
  unfold F_X4_digest at h
  refine Con.of (by decide) rfl (Nat.le_of_ble_eq_true rfl) (fun κ => ?_)
  show J κ E mi_X4_digest _ 0 0 [(0, .ref 53)] M 0 []
  refine J_aload_n (pc := 0) dX4_digest_0 rfl 0 rfl ?_
  refine J_iconst (v := (0 : Int32)) (pc := 1) dX4_digest_1 (by decide) ?_
  refine put_53_0 (pc := 2) w_1023 dX4_digest_2 ?_
  refine J_aload_n (pc := 5) dX4_digest_5 rfl 0 rfl ?_
  refine J_ldc2 (pc := 6) w_1553 dX4_digest_6 ?_
  refine put_53_21 (pc := 9) w_1044 dX4_digest_9 ?_
  refine J_aload_n (pc := 12) dX4_digest_12 rfl 0 rfl ?_
  refine J_aload_n (pc := 13) dX4_digest_13 rfl 0 rfl ?_
  refine get_53_3 (pc := 14) w_1026 dX4_digest_14 ?_
  refine J_iconst (v := (0 : Int32)) (pc := 17) dX4_digest_17 (by decide) ?_
  refine J_iald (c := 55) (N := 82) (pc := 18) ja_55 (Nat.le_of_ble_eq_true rfl) (vpc rfl) dX4_digest_18 ?_
  refine J_topi (x := (upL (upI M 53 0 (0 : Int32)) 53 21 (4507 : Int64)).1 55 (Int32.toNatClampNeg 0)) (y := (M.1 55 0)) (Eq.symm (a := (upL (upI M 53 0 (0 : Int32)) 53 21 (4507 : Int64)).1 55 (Int32.toNatClampNeg 0)) (show (upL (upI M 53 0 (0 : Int32)) 53 21 (4507 : Int64)).1 55 0 = (M.1 55 0) from (eL_n (eI_ne (Nat.ne_of_beq_eq_false rfl) rfl)))) ?_
  refine J_i2l (pc := 19) dX4_digest_19 ?_
  obtain ⟨M1, hc2, h⟩ := obind_e h
  refine J_callV (g := mi_X4_adds) (ci := 4) (pc := 20) [.long (M.1 55 0).toInt64] [] mv_X4_adds w_1554 (k_X4_adds (M.1 55 0).toInt64 _ hc2) rfl (by decide) rfl rfl rfl ⟨⟨Nat.le_of_ble_eq_true rfl, Nat.le_of_ble_eq_true rfl⟩, Nat.le_of_ble_eq_true rfl, Nat.le_of_ble_eq_true rfl⟩ (Nat.le_of_ble_eq_true rfl) dX4_digest_20 (Jk_0 rfl rfl ?_)
  refine J_aload_n (pc := 23) dX4_digest_23 rfl 0 rfl ?_
  refine J_aload_n (pc := 24) dX4_digest_24 rfl 0 rfl ?_
  refine get_53_3 (pc := 25) w_1026 dX4_digest_25 ?_
  refine J_bipush (v := (19 : Int32)) (pc := 28) dX4_digest_28 (by decide) ?_
  refine J_iald (c := 55) (N := 82) (pc := 30) ja_55 (Nat.le_of_ble_eq_true rfl) (vpc rfl) dX4_digest_30 ?_
  refine J_topi (x := M1.1 55 (Int32.toNatClampNeg 19)) (y := (M1.1 55 19)) (Eq.symm (a := M1.1 55 (Int32.toNatClampNeg 19)) (show M1.1 55 19 = (M1.1 55 19) from rfl)) ?_
  obtain ⟨v3, hc4, h⟩ := obind_e h
  refine J_callS (g := mi_X4_bits) (pc := 31) [.int (M1.1 55 19)] [.ref 53] ms_X4_bits w_1155 (k_X4_bits (M1.1 55 19) _ hc4) rfl rfl ⟨⟨Nat.le_of_ble_eq_true rfl, Nat.le_of_ble_eq_true rfl⟩, Nat.le_of_ble_eq_true rfl, Nat.le_of_ble_eq_true rfl⟩ (Nat.le_of_ble_eq_true rfl) dX4_digest_31 (Jk_v rfl rfl fun hok5 => ?_)
  refine J_i2l (pc := 34) dX4_digest_34 ?_
  obtain ⟨M6, hc7, h⟩ := obind_e h
  refine J_callV (g := mi_X4_adds) (ci := 4) (pc := 35) [.long v3.toInt64] [] mv_X4_adds w_1554 (k_X4_adds v3.toInt64 _ hc7) rfl (by decide) rfl rfl rfl ⟨⟨Nat.le_of_ble_eq_true rfl, Nat.le_of_ble_eq_true rfl⟩, Nat.le_of_ble_eq_true rfl, Nat.le_of_ble_eq_true rfl⟩ (Nat.le_of_ble_eq_true rfl) dX4_digest_35 (Jk_0 rfl rfl ?_)
  refine J_aload_n (pc := 38) dX4_digest_38 rfl 0 rfl ?_
  refine J_bipush (v := (25 : Int32)) (pc := 39) dX4_digest_39 (by decide) ?_
  refine J_aload_n (pc := 41) dX4_digest_41 rfl 0 rfl ?_
  obtain ⟨v8, hc9, h⟩ := obind_e h
  refine J_callV (g := mi_X4_occupied) (ci := 4) (pc := 42) [] [.int (25 : Int32), .ref 53] mv_X4_occupied w_1112 (k_X4_occupied _ hc9) rfl (by decide) rfl rfl rfl ⟨⟨Nat.le_of_ble_eq_true rfl, Nat.le_of_ble_eq_true rfl⟩, Nat.le_of_ble_eq_true rfl, Nat.le_of_ble_eq_true rfl⟩ (Nat.le_of_ble_eq_true rfl) dX4_digest_42 (Jk_v rfl rfl fun hok10 => ?_)
  obtain ⟨v11, hc12, h⟩ := obind_e h
  refine J_callS (g := mi_X4_bits) (pc := 45) [.int v8] [.int (25 : Int32), .ref 53] ms_X4_bits w_1155 (k_X4_bits v8 _ hc12) rfl rfl ⟨⟨Nat.le_of_ble_eq_true rfl, Nat.le_of_ble_eq_true rfl⟩, Nat.le_of_ble_eq_true rfl, Nat.le_of_ble_eq_true rfl⟩ (Nat.le_of_ble_eq_true rfl) dX4_digest_45 (Jk_v rfl rfl fun hok13 => ?_)
  refine J_isub (pc := 48) dX4_digest_48 ?_
  refine J_i2l (pc := 49) dX4_digest_49 ?_
  obtain ⟨M14, hc15, h⟩ := obind_e h
  refine J_callV (g := mi_X4_adds) (ci := 4) (pc := 50) [.long ((25 : Int32) - v11).toInt64] [] mv_X4_adds w_1554 (k_X4_adds ((25 : Int32) - v11).toInt64 _ hc15) rfl (by decide) rfl rfl rfl ⟨⟨Nat.le_of_ble_eq_true rfl, Nat.le_of_ble_eq_true rfl⟩, Nat.le_of_ble_eq_true rfl, Nat.le_of_ble_eq_true rfl⟩ (Nat.le_of_ble_eq_true rfl) dX4_digest_50 (Jk_0 rfl rfl ?_)
  refine J_aload_n (pc := 53) dX4_digest_53 rfl 0 rfl ?_
  refine J_aload_n (pc := 54) dX4_digest_54 rfl 0 rfl ?_
  refine J_callV (g := mi_X4_isFree) (ci := 4) (pc := 55) [] [.ref 53] mv_X4_isFree w_1393 (k_X4_isFree _) rfl (by decide) rfl rfl rfl ⟨⟨Nat.le_of_ble_eq_true rfl, Nat.le_of_ble_eq_true rfl⟩, Nat.le_of_ble_eq_true rfl, Nat.le_of_ble_eq_true rfl⟩ (Nat.le_of_ble_eq_true rfl) dX4_digest_55 (Jk_v rfl rfl fun hok16 => ?_)
  obtain ⟨v17, e18, h⟩ := bnd_e h
  refine J_join [(0, .ref 53)] M14 66 [.long v17, .ref 53] ?_ (fun hJ => ?_)
  · obtain ⟨M20, hc21, h⟩ := obind_e h
    refine J_callV (g := mi_X4_adds) (ci := 4) (pc := 66) [.long v17] [] mv_X4_adds w_1554 (k_X4_adds v17 _ hc21) rfl (by decide) rfl rfl rfl ⟨⟨Nat.le_of_ble_eq_true rfl, Nat.le_of_ble_eq_true rfl⟩, Nat.le_of_ble_eq_true rfl, Nat.le_of_ble_eq_true rfl⟩ (Nat.le_of_ble_eq_true rfl) dX4_digest_66 (Jk_0 rfl rfl ?_)
    refine J_aload_n (pc := 69) dX4_digest_69 rfl 0 rfl ?_
    refine J_aload_n (pc := 70) dX4_digest_70 rfl 0 rfl ?_
    obtain ⟨v22, hc23, h⟩ := obind_e h
    refine J_callV (g := mi_X4_slides) (ci := 4) (pc := 71) [] [.ref 53] mv_X4_slides w_1405 (k_X4_slides _ hc23) rfl (by decide) rfl rfl rfl ⟨⟨Nat.le_of_ble_eq_true rfl, Nat.le_of_ble_eq_true rfl⟩, Nat.le_of_ble_eq_true rfl, Nat.le_of_ble_eq_true rfl⟩ (Nat.le_of_ble_eq_true rfl) dX4_digest_71 (Jk_v rfl rfl fun hok24 => ?_)
    refine J_i2l (pc := 74) dX4_digest_74 ?_
    obtain ⟨M25, hc26, h⟩ := obind_e h
    refine J_callV (g := mi_X4_adds) (ci := 4) (pc := 75) [.long v22.toInt64] [] mv_X4_adds w_1554 (k_X4_adds v22.toInt64 _ hc26) rfl (by decide) rfl rfl rfl ⟨⟨Nat.le_of_ble_eq_true rfl, Nat.le_of_ble_eq_true rfl⟩, Nat.le_of_ble_eq_true rfl, Nat.le_of_ble_eq_true rfl⟩ (Nat.le_of_ble_eq_true rfl) dX4_digest_75 (Jk_0 rfl rfl ?_)
    refine J_aload_n (pc := 78) dX4_digest_78 rfl 0 rfl ?_
    refine J_aload_n (pc := 79) dX4_digest_79 rfl 0 rfl ?_
    refine get_53_3 (pc := 80) w_1026 dX4_digest_80 ?_
    refine J_bipush (v := (20 : Int32)) (pc := 83) dX4_digest_83 (by decide) ?_
    refine J_iald (c := 55) (N := 82) (pc := 85) ja_55 (Nat.le_of_ble_eq_true rfl) (vpc rfl) dX4_digest_85 ?_
    refine J_topi (x := M25.1 55 (Int32.toNatClampNeg 20)) (y := (M25.1 55 20)) (Eq.symm (a := M25.1 55 (Int32.toNatClampNeg 20)) (show M25.1 55 20 = (M25.1 55 20) from rfl)) ?_
    refine J_i2l (pc := 86) dX4_digest_86 ?_
    obtain ⟨M27, hc28, h⟩ := obind_e h
    refine J_callV (g := mi_X4_adds) (ci := 4) (pc := 87) [.long (M25.1 55 20).toInt64] [] mv_X4_adds w_1554 (k_X4_adds (M25.1 55 20).toInt64 _ hc28) rfl (by decide) rfl rfl rfl ⟨⟨Nat.le_of_ble_eq_true rfl, Nat.le_of_ble_eq_true rfl⟩, Nat.le_of_ble_eq_true rfl, Nat.le_of_ble_eq_true rfl⟩ (Nat.le_of_ble_eq_true rfl) dX4_digest_87 (Jk_0 rfl rfl ?_)
    refine J_aload_n (pc := 90) dX4_digest_90 rfl 0 rfl ?_
    refine J_aload_n (pc := 91) dX4_digest_91 rfl 0 rfl ?_
    obtain ⟨v29, hc30, h⟩ := obind_e h
    refine J_callV (g := mi_X4_burnt) (ci := 4) (pc := 92) [] [.ref 53] mv_X4_burnt w_1437 (k_X4_burnt _ hc30) rfl (by decide) rfl rfl rfl ⟨⟨Nat.le_of_ble_eq_true rfl, Nat.le_of_ble_eq_true rfl⟩, Nat.le_of_ble_eq_true rfl, Nat.le_of_ble_eq_true rfl⟩ (Nat.le_of_ble_eq_true rfl) dX4_digest_92 (Jk_v rfl rfl fun hok31 => ?_)
    refine J_i2l (pc := 95) dX4_digest_95 ?_
    obtain ⟨M32, hc33, h⟩ := obind_e h
    refine J_callV (g := mi_X4_adds) (ci := 4) (pc := 96) [.long v29.toInt64] [] mv_X4_adds w_1554 (k_X4_adds v29.toInt64 _ hc33) rfl (by decide) rfl rfl rfl ⟨⟨Nat.le_of_ble_eq_true rfl, Nat.le_of_ble_eq_true rfl⟩, Nat.le_of_ble_eq_true rfl, Nat.le_of_ble_eq_true rfl⟩ (Nat.le_of_ble_eq_true rfl) dX4_digest_96 (Jk_0 rfl rfl ?_)
    refine J_aload_n (pc := 99) dX4_digest_99 rfl 0 rfl ?_
    refine J_aload_n (pc := 100) dX4_digest_100 rfl 0 rfl ?_
    obtain ⟨v34, hc35, h⟩ := obind_e h
    refine J_callV (g := mi_X4_burnt) (ci := 4) (pc := 101) [] [.ref 53] mv_X4_burnt w_1437 (k_X4_burnt _ hc35) rfl (by decide) rfl rfl rfl ⟨⟨Nat.le_of_ble_eq_true rfl, Nat.le_of_ble_eq_true rfl⟩, Nat.le_of_ble_eq_true rfl, Nat.le_of_ble_eq_true rfl⟩ (Nat.le_of_ble_eq_true rfl) dX4_digest_101 (Jk_v rfl rfl fun hok36 => ?_)
    refine J_i2l (pc := 104) dX4_digest_104 ?_
    obtain ⟨M37, hc38, h⟩ := obind_e h
    refine J_callV (g := mi_X4_adds) (ci := 4) (pc := 105) [.long v34.toInt64] [] mv_X4_adds w_1554 (k_X4_adds v34.toInt64 _ hc38) rfl (by decide) rfl rfl rfl ⟨⟨Nat.le_of_ble_eq_true rfl, Nat.le_of_ble_eq_true rfl⟩, Nat.le_of_ble_eq_true rfl, Nat.le_of_ble_eq_true rfl⟩ (Nat.le_of_ble_eq_true rfl) dX4_digest_105 (Jk_0 rfl rfl ?_)
    refine J_aload_n (pc := 108) dX4_digest_108 rfl 0 rfl ?_
    obtain ⟨M39, hc40, h⟩ := obind_e h
    refine J_callV (g := mi_X4_addsPlans) (ci := 4) (pc := 109) [] [] mv_X4_addsPlans w_1559 (k_X4_addsPlans _ hc40) rfl (by decide) rfl rfl rfl ⟨⟨Nat.le_of_ble_eq_true rfl, Nat.le_of_ble_eq_true rfl⟩, Nat.le_of_ble_eq_true rfl, Nat.le_of_ble_eq_true rfl⟩ (Nat.le_of_ble_eq_true rfl) dX4_digest_109 (Jk_0 rfl rfl ?_)
    refine J_aload_n (pc := 112) dX4_digest_112 rfl 0 rfl ?_
    refine J_aload_n (pc := 113) dX4_digest_113 rfl 0 rfl ?_
    refine get_53_5 (pc := 114) w_1028 dX4_digest_114 ?_
    refine J_i2l (pc := 117) dX4_digest_117 ?_
    obtain ⟨M41, hc42, h⟩ := obind_e h
    refine J_callV (g := mi_X4_adds) (ci := 4) (pc := 118) [.long (M39.1 53 5).toInt64] [] mv_X4_adds w_1554 (k_X4_adds (M39.1 53 5).toInt64 _ hc42) rfl (by decide) rfl rfl rfl ⟨⟨Nat.le_of_ble_eq_true rfl, Nat.le_of_ble_eq_true rfl⟩, Nat.le_of_ble_eq_true rfl, Nat.le_of_ble_eq_true rfl⟩ (Nat.le_of_ble_eq_true rfl) dX4_digest_118 (Jk_0 rfl rfl ?_)
    refine J_iconst (v := (0 : Int32)) (pc := 121) dX4_digest_121 (by decide) ?_
    refine J_istore_n (pc := 122) dX4_digest_122 rfl (Nat.le_of_ble_eq_true rfl) [1, 0] rfl ?_
    refine kL_X4_digest_L123 _ (fun M57 h => ?_) fuelN _ _ h
    refine J_iconst (v := (0 : Int32)) (pc := 162) dX4_digest_162 (by decide) ?_
    refine J_istore_n (pc := 163) dX4_digest_163 rfl (Nat.le_of_ble_eq_true rfl) [1, 0] rfl ?_
    refine J_LS [(0, .ref 53), (1, .int (0 : Int32))] [] rfl rfl ?_
    refine kL_X4_digest_L164 _ (fun M63 h => ?_) fuelN _ _ h
    refine J_iconst (v := (0 : Int32)) (pc := 185) dX4_digest_185 (by decide) ?_
    refine J_istore_n (pc := 186) dX4_digest_186 rfl (Nat.le_of_ble_eq_true rfl) [1, 0] rfl ?_
    refine kL_X4_digest_L187 _ (fun M77 h => ?_) fuelN _ _ h
    refine J_aload_n (pc := 224) dX4_digest_224 rfl 0 rfl ?_
    refine J_aload_n (pc := 225) dX4_digest_225 rfl 0 rfl ?_
    refine get_53_3 (pc := 226) w_1026 dX4_digest_226 ?_
    refine J_bipush (v := (81 : Int32)) (pc := 229) dX4_digest_229 (by decide) ?_
    refine J_iald (c := 55) (N := 82) (pc := 231) ja_55 (Nat.le_of_ble_eq_true rfl) (vpc rfl) dX4_digest_231 ?_
    refine J_topi (x := M77.1 55 (Int32.toNatClampNeg 81)) (y := (M77.1 55 81)) (Eq.symm (a := M77.1 55 (Int32.toNatClampNeg 81)) (show M77.1 55 81 = (M77.1 55 81) from rfl)) ?_
    refine J_iconst (v := (-1 : Int32)) (pc := 232) dX4_digest_232 (by decide) ?_
    obtain ⟨v78, e79, h⟩ := bnd_e h
    refine J_join [(0, .ref 53)] M77 241 [.long v78, .ref 53] ?_ (fun hJ => ?_)
    · obtain ⟨M81, hc82, h⟩ := obind_e h
      refine J_callV (g := mi_X4_adds) (ci := 4) (pc := 241) [.long v78] [] mv_X4_adds w_1554 (k_X4_adds v78 _ hc82) rfl (by decide) rfl rfl rfl ⟨⟨Nat.le_of_ble_eq_true rfl, Nat.le_of_ble_eq_true rfl⟩, Nat.le_of_ble_eq_true rfl, Nat.le_of_ble_eq_true rfl⟩ (Nat.le_of_ble_eq_true rfl) dX4_digest_241 (Jk_0 rfl rfl ?_)
      refine J_aload_n (pc := 244) dX4_digest_244 rfl 0 rfl ?_
      refine get_53_3 (pc := 245) w_1026 dX4_digest_245 ?_
      refine J_bipush (v := (81 : Int32)) (pc := 248) dX4_digest_248 (by decide) ?_
      refine J_iald (c := 55) (N := 82) (pc := 250) ja_55 (Nat.le_of_ble_eq_true rfl) (vpc rfl) dX4_digest_250 ?_
      refine J_topi (x := M81.1 55 (Int32.toNatClampNeg 81)) (y := (M81.1 55 81)) (Eq.symm (a := M81.1 55 (Int32.toNatClampNeg 81)) (show M81.1 55 81 = (M81.1 55 81) from rfl)) ?_
      refine J_iconst (v := (-1 : Int32)) (pc := 251) dX4_digest_251 (by decide) ?_
      obtain ⟨M83, hv87, h⟩ := obind_e h
      refine J_join [(0, .ref 53)] M83 267 [] ?_ (fun hJ => ?_)
      · refine J_aload_n (pc := 267) dX4_digest_267 rfl 0 rfl ?_
        refine J_aload_n (pc := 268) dX4_digest_268 rfl 0 rfl ?_
        obtain ⟨v88, M89, hc90, h⟩ := obind2_e h
        refine J_callV (g := mi_X4_share) (ci := 4) (pc := 269) [] [.ref 53] mv_X4_share w_1545 (k_X4_share _ hc90) rfl (by decide) rfl rfl rfl ⟨⟨Nat.le_of_ble_eq_true rfl, Nat.le_of_ble_eq_true rfl⟩, Nat.le_of_ble_eq_true rfl, Nat.le_of_ble_eq_true rfl⟩ (Nat.le_of_ble_eq_true rfl) dX4_digest_269 (Jk_v rfl rfl fun hok91 => ?_)
        refine J_callS (g := mi_Jxe99ae_doubleToLongBits_ccdee) (pc := 272) [.double v88] [.ref 53] ms_Jxe99ae_doubleToLongBits_ccdee w_1567 (k_Jxe99ae_doubleToLongBits_ccdee v88 _) rfl rfl ⟨⟨Nat.le_of_ble_eq_true rfl, Nat.le_of_ble_eq_true rfl⟩, Nat.le_of_ble_eq_true rfl, Nat.le_of_ble_eq_true rfl⟩ (Nat.le_of_ble_eq_true rfl) dX4_digest_272 (Jk_v rfl rfl fun hok92 => ?_)
        obtain ⟨M93, hc94, h⟩ := obind_e h
        refine J_callV (g := mi_X4_adds) (ci := 4) (pc := 275) [.long (F_Jxe99ae_doubleToLongBits_ccdee v88)] [] mv_X4_adds w_1554 (k_X4_adds (F_Jxe99ae_doubleToLongBits_ccdee v88) _ hc94) rfl (by decide) rfl rfl rfl ⟨⟨Nat.le_of_ble_eq_true rfl, Nat.le_of_ble_eq_true rfl⟩, Nat.le_of_ble_eq_true rfl, Nat.le_of_ble_eq_true rfl⟩ (Nat.le_of_ble_eq_true rfl) dX4_digest_275 (Jk_0 rfl rfl ?_)
        refine J_aload_n (pc := 278) dX4_digest_278 rfl 0 rfl ?_
        refine J_aload_n (pc := 279) dX4_digest_279 rfl 0 rfl ?_
        refine get_53_2 (pc := 280) w_1025 dX4_digest_280 ?_
        refine J_i2l (pc := 283) dX4_digest_283 ?_
        obtain ⟨M95, hc96, h⟩ := obind_e h
        refine J_callV (g := mi_X4_adds) (ci := 4) (pc := 284) [.long (M93.1 53 2).toInt64] [] mv_X4_adds w_1554 (k_X4_adds (M93.1 53 2).toInt64 _ hc96) rfl (by decide) rfl rfl rfl ⟨⟨Nat.le_of_ble_eq_true rfl, Nat.le_of_ble_eq_true rfl⟩, Nat.le_of_ble_eq_true rfl, Nat.le_of_ble_eq_true rfl⟩ (Nat.le_of_ble_eq_true rfl) dX4_digest_284 (Jk_0 rfl rfl ?_)
        refine J_iconst (v := (0 : Int32)) (pc := 287) dX4_digest_287 (by decide) ?_
        refine J_istore_n (pc := 288) dX4_digest_288 rfl (Nat.le_of_ble_eq_true rfl) [1, 0] rfl ?_
        refine kL_X4_digest_L289 _ (fun M105 h => ?_) fuelN _ _ h
        refine J_aload_n (pc := 314) dX4_digest_314 rfl 0 rfl ?_
        refine get_53_21 (pc := 315) w_1044 dX4_digest_315 ?_
        cases h
        exact J_lreturn dX4_digest_318 rfl rfl rfl rfl rfl
      · replace h := hv87
        refine J_icmp_eq (pc := 252) (tgt := 267) dX4_digest_252 (by decide) (fun c84 => ?_) (fun c84 => ?_)
        · replace h := ifp c84 h
          cases h
          exact hJ
        · replace h := ifn c84 h
          refine J_aload_n (pc := 255) dX4_digest_255 rfl 0 rfl ?_
          refine J_aload_n (pc := 256) dX4_digest_256 rfl 0 rfl ?_
          refine get_53_3 (pc := 257) w_1026 dX4_digest_257 ?_
          refine J_bipush (v := (81 : Int32)) (pc := 260) dX4_digest_260 (by decide) ?_
          refine J_iald (c := 55) (N := 82) (pc := 262) ja_55 (Nat.le_of_ble_eq_true rfl) (vpc rfl) dX4_digest_262 ?_
          refine J_topi (x := M81.1 55 (Int32.toNatClampNeg 81)) (y := (M81.1 55 81)) (Eq.symm (a := M81.1 55 (Int32.toNatClampNeg 81)) (show M81.1 55 81 = (M81.1 55 81) from rfl)) ?_
          refine J_i2l (pc := 263) dX4_digest_263 ?_
          obtain ⟨M85, hc86, h⟩ := obind_e h
          refine J_callV (g := mi_X4_adds) (ci := 4) (pc := 264) [.long (M81.1 55 81).toInt64] [] mv_X4_adds w_1554 (k_X4_adds (M81.1 55 81).toInt64 _ hc86) rfl (by decide) rfl rfl rfl ⟨⟨Nat.le_of_ble_eq_true rfl, Nat.le_of_ble_eq_true rfl⟩, Nat.le_of_ble_eq_true rfl, Nat.le_of_ble_eq_true rfl⟩ (Nat.le_of_ble_eq_true rfl) dX4_digest_264 (Jk_0 rfl rfl ?_)
          cases h
          exact hJ
    · refine J_icmp_ne (pc := 233) (tgt := 240) dX4_digest_233 (by decide) (fun c80 => ?_) (fun c80 => ?_)
      · refine J_lconst (v := (1 : Int64)) (pc := 240) dX4_digest_240 (by decide) ?_
        refine J_topl (y := v78) (by rw [e79, if_neg c80]) ?_
        exact hJ
      · refine J_lconst (v := (0 : Int64)) (pc := 236) dX4_digest_236 (by decide) ?_
        refine J_goto (pc := 237) (tgt := 241) dX4_digest_237 (by decide) ?_
        refine J_topl (y := v78) (by rw [e79, if_pos c80]) ?_
        exact hJ
  · refine J_if_eq (pc := 58) (tgt := 65) dX4_digest_58 (by decide) (fun c19 => ?_) (fun c19 => ?_)
    · refine J_lconst (v := (0 : Int64)) (pc := 65) dX4_digest_65 (by decide) ?_
      refine J_topl (y := v17) (by rw [e18, if_pos c19]) ?_
      exact hJ
    · refine J_lconst (v := (1 : Int64)) (pc := 61) dX4_digest_61 (by decide) ?_
      refine J_goto (pc := 62) (tgt := 66) dX4_digest_62 (by decide) ?_
      refine J_topl (y := v17) (by rw [e18, if_neg c19]) ?_
      exact hJ

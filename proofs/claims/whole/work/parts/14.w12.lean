/-! ===== walks of the methods, 12 ===== -/
set_option maxHeartbeats 4000000 in
set_option maxRecDepth 100000 in
theorem kL_X4_driveOn_L7 {κ : Kx} {E : En} {Q : State → Prop} {ρ : Type} {r : ρ} (a1 : Int32) (K38 : Wd → Option ρ) (hK38 : ∀ (M : Wd), K38 M = some r → J κ E mi_X4_driveOn Q 0 0 [(1, .int a1)] M 38 []) : ∀ (m : Nat) (x2 : Int32) (M : Wd), F_X4_driveOn_L7 a1 K38 m x2 M = some r → J κ E mi_X4_driveOn Q 0 0 [(0, .ref 53), (1, .int a1), (2, .int x2)] M 7 [] := by
  intro m
  induction m with
  | zero => intro x2 M h; exact (nomatch (show (none : Option ρ) = some r from h))
  | succ m ih =>
    intro x2 M h
    unfold F_X4_driveOn_L7 at h
    refine J_iload_n (pc := 7) dX4_driveOn_7 rfl 2 rfl ?_
    refine J_iload_n (pc := 8) dX4_driveOn_8 rfl 1 rfl ?_
    refine J_icmp_ge (pc := 9) (tgt := 38) dX4_driveOn_9 (by decide) (fun c5 => ?_) (fun c5 => ?_)
    · replace h := ifp c5 h
      refine J_sub [1] rfl ?_
      exact hK38 _ h
    · replace h := ifn c5 h
      refine J_aload_n (pc := 12) dX4_driveOn_12 rfl 0 rfl ?_
      obtain ⟨v6, hc7, h⟩ := obind_e h
      refine J_callV (g := mi_X4_next) (ci := 4) (pc := 13) [] [] mv_X4_next w_1262 (k_X4_next _ hc7) rfl (by decide) rfl rfl rfl ⟨⟨Nat.le_of_ble_eq_true rfl, Nat.le_of_ble_eq_true rfl⟩, Nat.le_of_ble_eq_true rfl, Nat.le_of_ble_eq_true rfl⟩ (Nat.le_of_ble_eq_true rfl) dX4_driveOn_13 (Jk_v rfl rfl fun hok8 => ?_)
      refine J_istore_n (pc := 16) dX4_driveOn_16 rfl (Nat.le_of_ble_eq_true rfl) [1, 2, 3, 0] rfl ?_
      refine J_aload_n (pc := 17) dX4_driveOn_17 rfl 0 rfl ?_
      refine J_iload_n (pc := 18) dX4_driveOn_18 rfl 3 rfl ?_
      refine J_bipush (v := (8 : Int32)) (pc := 19) dX4_driveOn_19 (by decide) ?_
      refine J_idiv (pc := 21) dX4_driveOn_21 (by decide) ?_
      refine J_iload_n (pc := 22) dX4_driveOn_22 rfl 3 rfl ?_
      refine J_bipush (v := (8 : Int32)) (pc := 23) dX4_driveOn_23 (by decide) ?_
      refine J_irem (pc := 25) dX4_driveOn_25 (by decide) ?_
      refine J_iconst (v := (3 : Int32)) (pc := 26) dX4_driveOn_26 (by decide) ?_
      refine J_isub (pc := 27) dX4_driveOn_27 ?_
      obtain ⟨v9, M10, hc11, h⟩ := obind2_e h
      refine J_callV (g := mi_X4_slideOn) (ci := 4) (pc := 28) [.int (v6 / (8 : Int32)), .int ((v6 - v6 / (8 : Int32) * (8 : Int32)) - (3 : Int32))] [] mv_X4_slideOn w_1182 (k_X4_slideOn (v6 / (8 : Int32)) ((v6 - v6 / (8 : Int32) * (8 : Int32)) - (3 : Int32)) _ hc11) rfl (by decide) rfl rfl rfl ⟨⟨Nat.le_of_ble_eq_true rfl, Nat.le_of_ble_eq_true rfl⟩, Nat.le_of_ble_eq_true rfl, Nat.le_of_ble_eq_true rfl⟩ (Nat.le_of_ble_eq_true rfl) dX4_driveOn_28 (Jk_v rfl rfl fun hok12 => ?_)
      refine J_pop (pc := 31) dX4_driveOn_31 rfl ?_
      obtain ⟨v13, e14, h⟩ := bnd_e h
      refine J_iinc (v := v13) (pc := 32) dX4_driveOn_32 2 rfl (by rw [e14]; rfl) (Nat.le_of_ble_eq_true rfl) [1, 2, 0, 3] rfl ?_
      refine J_LS [(0, .ref 53), (1, .int a1), (2, .int v13), (3, .int v6)] [] rfl rfl ?_
      refine J_goto (pc := 35) (tgt := 7) dX4_driveOn_35 (by decide) ?_
      refine J_sub [0, 1, 2] rfl ?_
      exact ih _ _ h
set_option maxHeartbeats 4000000 in
set_option maxRecDepth 100000 in
theorem k_X4_driveOn {E : En} (M : Wd) {r : Int32} {M' : Wd} (h : F_X4_driveOn M = some (r, M')) : Con E mi_X4_driveOn [.ref 53] M (.inl (some (.int r))) M' := by
  unfold F_X4_driveOn at h
  refine Con.of (by decide) rfl (Nat.le_of_ble_eq_true rfl) (fun κ => ?_)
  show J κ E mi_X4_driveOn _ 0 0 [(0, .ref 53)] M 0 []
  refine J_aload_n (pc := 0) dX4_driveOn_0 rfl 0 rfl ?_
  obtain ⟨v1, M2, hc3, h⟩ := obind2_e h
  refine J_callV (g := mi_X4_planned) (ci := 4) (pc := 1) [] [] mv_X4_planned w_1214 (k_X4_planned _ hc3) rfl (by decide) rfl rfl rfl ⟨⟨Nat.le_of_ble_eq_true rfl, Nat.le_of_ble_eq_true rfl⟩, Nat.le_of_ble_eq_true rfl, Nat.le_of_ble_eq_true rfl⟩ (Nat.le_of_ble_eq_true rfl) dX4_driveOn_1 (Jk_v rfl rfl fun hok4 => ?_)
  refine J_istore_n (pc := 4) dX4_driveOn_4 rfl (Nat.le_of_ble_eq_true rfl) [1, 0] rfl ?_
  refine J_iconst (v := (0 : Int32)) (pc := 5) dX4_driveOn_5 (by decide) ?_
  refine J_istore_n (pc := 6) dX4_driveOn_6 rfl (Nat.le_of_ble_eq_true rfl) [1, 2, 0] rfl ?_
  refine J_LS [(0, .ref 53), (1, .int v1), (2, .int (0 : Int32))] [] rfl rfl ?_
  refine kL_X4_driveOn_L7 _ _ (fun M15 h => ?_) fuelN _ _ h
  refine J_iload_n (pc := 38) dX4_driveOn_38 rfl 0 rfl ?_
  cases h
  exact J_ireturn dX4_driveOn_39 rfl rfl rfl rfl rfl
set_option maxHeartbeats 4000000 in
set_option maxRecDepth 100000 in
theorem k_X4_addCar {E : En} (a1 : Int32) (a2 : Int32) (a3 : Int32) (M : Wd) {r : Int32} {M' : Wd} (h : F_X4_addCar a1 a2 a3 M = some (r, M')) : Con E mi_X4_addCar [.ref 53, .int a1, .int a2, .int a3] M (.inl (some (.int r))) M' := by
  unfold F_X4_addCar at h
  refine Con.of (by decide) rfl (Nat.le_of_ble_eq_true rfl) (fun κ => ?_)
  show J κ E mi_X4_addCar _ 0 0 [(0, .ref 53), (1, .int a1), (2, .int a2), (3, .int a3)] M 0 []
  refine J_aload_n (pc := 0) dX4_addCar_0 rfl 0 rfl ?_
  refine J_aload_n (pc := 1) dX4_addCar_1 rfl 0 rfl ?_
  refine J_iload_n (pc := 2) dX4_addCar_2 rfl 1 rfl ?_
  refine J_iload_n (pc := 3) dX4_addCar_3 rfl 2 rfl ?_
  refine J_iload_n (pc := 4) dX4_addCar_4 rfl 3 rfl ?_
  obtain ⟨v1, hc2, h⟩ := obind_e h
  refine J_callV (g := mi_X4_wrongCar) (ci := 4) (pc := 5) [.int a1, .int a2, .int a3] [.ref 53] mv_X4_wrongCar w_1099 (k_X4_wrongCar a1 a2 a3 _ hc2) rfl (by decide) rfl rfl rfl ⟨⟨Nat.le_of_ble_eq_true rfl, Nat.le_of_ble_eq_true rfl⟩, Nat.le_of_ble_eq_true rfl, Nat.le_of_ble_eq_true rfl⟩ (Nat.le_of_ble_eq_true rfl) dX4_addCar_5 (Jk_v rfl rfl fun hok3 => ?_)
  obtain ⟨v4, M5, hc6, h⟩ := obind2_e h
  refine J_callV (g := mi_X4_refused) (ci := 4) (pc := 8) [.int v1] [] mv_X4_refused w_1120 (k_X4_refused v1 _ hc6) rfl (by decide) rfl rfl rfl ⟨⟨Nat.le_of_ble_eq_true rfl, Nat.le_of_ble_eq_true rfl⟩, Nat.le_of_ble_eq_true rfl, Nat.le_of_ble_eq_true rfl⟩ (Nat.le_of_ble_eq_true rfl) dX4_addCar_8 (Jk_v rfl rfl fun hok7 => ?_)
  refine J_if_eq (pc := 11) (tgt := 16) dX4_addCar_11 (by decide) (fun c8 => ?_) (fun c8 => ?_)
  · replace h := ifp c8 h
    refine J_aload_n (pc := 16) dX4_addCar_16 rfl 0 rfl ?_
    obtain ⟨M9, hc10, h⟩ := obind_e h
    refine J_callV (g := mi_X4_saves) (ci := 4) (pc := 17) [] [] mv_X4_saves w_1124 (k_X4_saves _ hc10) rfl (by decide) rfl rfl rfl ⟨⟨Nat.le_of_ble_eq_true rfl, Nat.le_of_ble_eq_true rfl⟩, Nat.le_of_ble_eq_true rfl, Nat.le_of_ble_eq_true rfl⟩ (Nat.le_of_ble_eq_true rfl) dX4_addCar_17 (Jk_0 rfl rfl ?_)
    refine J_aload_n (pc := 20) dX4_addCar_20 rfl 0 rfl ?_
    refine J_iload_n (pc := 21) dX4_addCar_21 rfl 1 rfl ?_
    refine J_iload_n (pc := 22) dX4_addCar_22 rfl 2 rfl ?_
    refine J_iload_n (pc := 23) dX4_addCar_23 rfl 3 rfl ?_
    obtain ⟨v11, M12, hc13, h⟩ := obind2_e h
    refine J_callV (g := mi_X4_addOn) (ci := 4) (pc := 24) [.int a1, .int a2, .int a3] [] mv_X4_addOn w_1131 (k_X4_addOn a1 a2 a3 _ hc13) rfl (by decide) rfl rfl rfl ⟨⟨Nat.le_of_ble_eq_true rfl, Nat.le_of_ble_eq_true rfl⟩, Nat.le_of_ble_eq_true rfl, Nat.le_of_ble_eq_true rfl⟩ (Nat.le_of_ble_eq_true rfl) dX4_addCar_24 (Jk_v rfl rfl fun hok14 => ?_)
    cases h
    exact J_ireturn dX4_addCar_27 rfl rfl rfl rfl rfl
  · replace h := ifn c8 h
    refine J_iconst (v := (0 : Int32)) (pc := 14) dX4_addCar_14 (by decide) ?_
    cases h
    exact J_ireturn dX4_addCar_15 rfl rfl rfl rfl rfl
set_option maxHeartbeats 4000000 in
set_option maxRecDepth 100000 in
theorem k_X4_dropLast {E : En} (M : Wd) {r : Int32} {M' : Wd} (h : F_X4_dropLast M = some (r, M')) : Con E mi_X4_dropLast [.ref 53] M (.inl (some (.int r))) M' := by
  unfold F_X4_dropLast at h
  refine Con.of (by decide) rfl (Nat.le_of_ble_eq_true rfl) (fun κ => ?_)
  show J κ E mi_X4_dropLast _ 0 0 [(0, .ref 53)] M 0 []
  refine J_aload_n (pc := 0) dX4_dropLast_0 rfl 0 rfl ?_
  refine J_aload_n (pc := 1) dX4_dropLast_1 rfl 0 rfl ?_
  refine get_53_3 (pc := 2) w_1026 dX4_dropLast_2 ?_
  refine J_iconst (v := (0 : Int32)) (pc := 5) dX4_dropLast_5 (by decide) ?_
  refine J_iald (c := 55) (N := 82) (pc := 6) ja_55 (Nat.le_of_ble_eq_true rfl) (vpc rfl) dX4_dropLast_6 ?_
  refine J_topi (x := M.1 55 (Int32.toNatClampNeg 0)) (y := (M.1 55 0)) (Eq.symm (a := M.1 55 (Int32.toNatClampNeg 0)) (show M.1 55 0 = (M.1 55 0) from rfl)) ?_
  obtain ⟨v1, e2, h⟩ := bnd_e h
  have hb4 : isB v1 := by rw [e2]; repeat (first | exact Or.inl rfl | exact Or.inr rfl | assumption | exact okB_b (by assumption) | apply isB_ite)
  refine J_join [(0, .ref 53)] M 15 [.int v1, .ref 53] ?_ (fun hJ => ?_)
  · obtain ⟨v5, M6, hc7, h⟩ := obind2_e h
    refine J_callV (g := mi_X4_refused) (ci := 4) (pc := 15) [.int v1] [] mv_X4_refused w_1120 (k_X4_refused v1 _ hc7) rfl (by decide) rfl rfl rfl ⟨⟨Nat.le_of_ble_eq_true rfl, Nat.le_of_ble_eq_true rfl⟩, Nat.le_of_ble_eq_true rfl, Nat.le_of_ble_eq_true rfl⟩ (Nat.le_of_ble_eq_true rfl) dX4_dropLast_15 (Jk_v rfl rfl fun hok8 => ?_)
    refine J_if_eq (pc := 18) (tgt := 23) dX4_dropLast_18 (by decide) (fun c9 => ?_) (fun c9 => ?_)
    · replace h := ifp c9 h
      refine J_aload_n (pc := 23) dX4_dropLast_23 rfl 0 rfl ?_
      obtain ⟨M10, hc11, h⟩ := obind_e h
      refine J_callV (g := mi_X4_saves) (ci := 4) (pc := 24) [] [] mv_X4_saves w_1124 (k_X4_saves _ hc11) rfl (by decide) rfl rfl rfl ⟨⟨Nat.le_of_ble_eq_true rfl, Nat.le_of_ble_eq_true rfl⟩, Nat.le_of_ble_eq_true rfl, Nat.le_of_ble_eq_true rfl⟩ (Nat.le_of_ble_eq_true rfl) dX4_dropLast_24 (Jk_0 rfl rfl ?_)
      refine J_aload_n (pc := 27) dX4_dropLast_27 rfl 0 rfl ?_
      refine get_53_3 (pc := 28) w_1026 dX4_dropLast_28 ?_
      refine J_iconst (v := (0 : Int32)) (pc := 31) dX4_dropLast_31 (by decide) ?_
      refine J_dup2 (pc := 32) dX4_dropLast_32 rfl rfl ?_
      refine J_iald (c := 55) (N := 82) (pc := 33) ja_55 (Nat.le_of_ble_eq_true rfl) (vpc rfl) dX4_dropLast_33 ?_
      refine J_topi (x := M10.1 55 (Int32.toNatClampNeg 0)) (y := (M10.1 55 0)) (Eq.symm (a := M10.1 55 (Int32.toNatClampNeg 0)) (show M10.1 55 0 = (M10.1 55 0) from rfl)) ?_
      refine J_iconst (v := (1 : Int32)) (pc := 34) dX4_dropLast_34 (by decide) ?_
      refine J_isub (pc := 35) dX4_dropLast_35 ?_
      refine J_iast (c := 55) (N := 82) (pc := 36) (fun _ => ja_55) (Nat.le_of_ble_eq_true rfl) (vpc rfl) dX4_dropLast_36 ?_
      refine J_M (upI M10 55 0 ((M10.1 55 0) - (1 : Int32))) rfl ?_
      refine J_aload_n (pc := 37) dX4_dropLast_37 rfl 0 rfl ?_
      refine get_53_3 (pc := 38) w_1026 dX4_dropLast_38 ?_
      refine J_bipush (v := (20 : Int32)) (pc := 41) dX4_dropLast_41 (by decide) ?_
      refine J_iconst (v := (0 : Int32)) (pc := 43) dX4_dropLast_43 (by decide) ?_
      refine J_iast (c := 55) (N := 82) (pc := 44) (fun _ => ja_55) (Nat.le_of_ble_eq_true rfl) (vpc rfl) dX4_dropLast_44 ?_
      refine J_M (upI (upI M10 55 0 ((M10.1 55 0) - (1 : Int32))) 55 20 (0 : Int32)) rfl ?_
      refine J_aload_n (pc := 45) dX4_dropLast_45 rfl 0 rfl ?_
      refine get_53_3 (pc := 46) w_1026 dX4_dropLast_46 ?_
      refine J_iconst (v := (0 : Int32)) (pc := 49) dX4_dropLast_49 (by decide) ?_
      refine J_iald (c := 55) (N := 82) (pc := 50) ja_55 (Nat.le_of_ble_eq_true rfl) (vpc rfl) dX4_dropLast_50 ?_
      refine J_topi (x := (upI (upI M10 55 0 ((M10.1 55 0) - (1 : Int32))) 55 20 (0 : Int32)).1 55 (Int32.toNatClampNeg 0)) (y := ((M10.1 55 0) - (1 : Int32))) (Eq.symm (a := (upI (upI M10 55 0 ((M10.1 55 0) - (1 : Int32))) 55 20 (0 : Int32)).1 55 (Int32.toNatClampNeg 0)) (show (upI (upI M10 55 0 ((M10.1 55 0) - (1 : Int32))) 55 20 (0 : Int32)).1 55 0 = ((M10.1 55 0) - (1 : Int32)) from (eI_kn (Nat.ne_of_beq_eq_false rfl) eI_kk))) ?_
      cases h
      exact J_ireturn dX4_dropLast_51 rfl rfl rfl rfl rfl
    · replace h := ifn c9 h
      refine J_iconst (v := (0 : Int32)) (pc := 21) dX4_dropLast_21 (by decide) ?_
      cases h
      exact J_ireturn dX4_dropLast_22 rfl rfl rfl rfl rfl
  · refine J_if_le (pc := 7) (tgt := 14) dX4_dropLast_7 (by decide) (fun c3 => ?_) (fun c3 => ?_)
    · refine J_iconst (v := (1 : Int32)) (pc := 14) dX4_dropLast_14 (by decide) ?_
      refine J_topi (y := v1) (by rw [e2, if_pos c3]) ?_
      exact hJ
    · refine J_iconst (v := (0 : Int32)) (pc := 10) dX4_dropLast_10 (by decide) ?_
      refine J_goto (pc := 11) (tgt := 15) dX4_dropLast_11 (by decide) ?_
      refine J_topi (y := v1) (by rw [e2, if_neg c3]) ?_
      exact hJ
set_option maxHeartbeats 4000000 in
set_option maxRecDepth 100000 in
theorem k_X4_toggleWall {E : En} (a1 : Int32) (M : Wd) {r : Int32} {M' : Wd} (h : F_X4_toggleWall a1 M = some (r, M')) : Con E mi_X4_toggleWall [.ref 53, .int a1] M (.inl (some (.int r))) M' := by
  unfold F_X4_toggleWall at h
  refine Con.of (by decide) rfl (Nat.le_of_ble_eq_true rfl) (fun κ => ?_)
  show J κ E mi_X4_toggleWall _ 0 0 [(0, .ref 53), (1, .int a1)] M 0 []
  refine J_aload_n (pc := 0) dX4_toggleWall_0 rfl 0 rfl ?_
  refine J_iload_n (pc := 1) dX4_toggleWall_1 rfl 1 rfl ?_
  refine J_callS (g := mi_X4_isCell) (pc := 2) [.int a1] [.ref 53] ms_X4_isCell w_1143 (k_X4_isCell a1 _) rfl rfl ⟨⟨Nat.le_of_ble_eq_true rfl, Nat.le_of_ble_eq_true rfl⟩, Nat.le_of_ble_eq_true rfl, Nat.le_of_ble_eq_true rfl⟩ (Nat.le_of_ble_eq_true rfl) dX4_toggleWall_2 (Jk_v rfl rfl fun hok1 => ?_)
  obtain ⟨v2, hv8, h⟩ := obind_e h
  refine J_join [(0, .ref 53), (1, .int a1)] M 25 [.int v2, .ref 53] ?_ (fun hJ => ?_)
  · obtain ⟨v9, M10, hc11, h⟩ := obind2_e h
    refine J_callV (g := mi_X4_refused) (ci := 4) (pc := 25) [.int v2] [] mv_X4_refused w_1120 (k_X4_refused v2 _ hc11) rfl (by decide) rfl rfl rfl ⟨⟨Nat.le_of_ble_eq_true rfl, Nat.le_of_ble_eq_true rfl⟩, Nat.le_of_ble_eq_true rfl, Nat.le_of_ble_eq_true rfl⟩ (Nat.le_of_ble_eq_true rfl) dX4_toggleWall_25 (Jk_v rfl rfl fun hok12 => ?_)
    refine J_if_eq (pc := 28) (tgt := 33) dX4_toggleWall_28 (by decide) (fun c13 => ?_) (fun c13 => ?_)
    · replace h := ifp c13 h
      refine J_aload_n (pc := 33) dX4_toggleWall_33 rfl 0 rfl ?_
      obtain ⟨M14, hc15, h⟩ := obind_e h
      refine J_callV (g := mi_X4_saves) (ci := 4) (pc := 34) [] [] mv_X4_saves w_1124 (k_X4_saves _ hc15) rfl (by decide) rfl rfl rfl ⟨⟨Nat.le_of_ble_eq_true rfl, Nat.le_of_ble_eq_true rfl⟩, Nat.le_of_ble_eq_true rfl, Nat.le_of_ble_eq_true rfl⟩ (Nat.le_of_ble_eq_true rfl) dX4_toggleWall_34 (Jk_0 rfl rfl ?_)
      refine J_aload_n (pc := 37) dX4_toggleWall_37 rfl 0 rfl ?_
      refine J_iload_n (pc := 38) dX4_toggleWall_38 rfl 1 rfl ?_
      obtain ⟨v16, M17, hc18, h⟩ := obind2_e h
      refine J_callV (g := mi_X4_turnOn) (ci := 4) (pc := 39) [.int a1] [] mv_X4_turnOn w_1158 (k_X4_turnOn a1 _ hc18) rfl (by decide) rfl rfl rfl ⟨⟨Nat.le_of_ble_eq_true rfl, Nat.le_of_ble_eq_true rfl⟩, Nat.le_of_ble_eq_true rfl, Nat.le_of_ble_eq_true rfl⟩ (Nat.le_of_ble_eq_true rfl) dX4_toggleWall_39 (Jk_v rfl rfl fun hok19 => ?_)
      cases h
      exact J_zreturn dX4_toggleWall_42 rfl (okB_b hok19) rfl rfl rfl rfl
    · replace h := ifn c13 h
      refine J_iconst (v := (0 : Int32)) (pc := 31) dX4_toggleWall_31 (by decide) ?_
      cases h
      exact J_zreturn dX4_toggleWall_32 rfl (Or.inl rfl) rfl rfl rfl rfl
  · replace h := hv8
    refine J_if_ne (pc := 5) (tgt := 12) dX4_toggleWall_5 (by decide) (fun c3 => ?_) (fun c3 => ?_)
    · replace h := ifn c3 h
      refine J_aload_n (pc := 12) dX4_toggleWall_12 rfl 0 rfl ?_
      refine J_iload_n (pc := 13) dX4_toggleWall_13 rfl 1 rfl ?_
      obtain ⟨v4, hc5, h⟩ := obind_e h
      refine J_callV (g := mi_X4_canTurn) (ci := 4) (pc := 14) [.int a1] [.ref 53] mv_X4_canTurn w_1147 (k_X4_canTurn a1 _ hc5) rfl (by decide) rfl rfl rfl ⟨⟨Nat.le_of_ble_eq_true rfl, Nat.le_of_ble_eq_true rfl⟩, Nat.le_of_ble_eq_true rfl, Nat.le_of_ble_eq_true rfl⟩ (Nat.le_of_ble_eq_true rfl) dX4_toggleWall_14 (Jk_v rfl rfl fun hok6 => ?_)
      refine J_if_eq (pc := 17) (tgt := 24) dX4_toggleWall_17 (by decide) (fun c7 => ?_) (fun c7 => ?_)
      · replace h := ifp c7 h
        refine J_iconst (v := (2 : Int32)) (pc := 24) dX4_toggleWall_24 (by decide) ?_
        cases h
        exact hJ
      · replace h := ifn c7 h
        refine J_iconst (v := (0 : Int32)) (pc := 20) dX4_toggleWall_20 (by decide) ?_
        refine J_goto (pc := 21) (tgt := 25) dX4_toggleWall_21 (by decide) ?_
        cases h
        exact hJ
    · replace h := ifp c3 h
      refine J_iconst (v := (1 : Int32)) (pc := 8) dX4_toggleWall_8 (by decide) ?_
      refine J_goto (pc := 9) (tgt := 25) dX4_toggleWall_9 (by decide) ?_
      cases h
      exact hJ
set_option maxHeartbeats 4000000 in
set_option maxRecDepth 100000 in
theorem k_X4_isChange {E : En} (a0 : Int32) (M : Wd) : Con E mi_X4_isChange [.int a0] M (.inl (some (.int (F_X4_isChange a0)))) M := by
  obtain ⟨r, h⟩ : ∃ r, F_X4_isChange a0 = r := ⟨_, rfl⟩
  rw [h]
  unfold F_X4_isChange at h
  refine Con.of (by decide) rfl (Nat.le_of_ble_eq_true rfl) (fun κ => ?_)
  show J κ E mi_X4_isChange _ 0 0 [(0, .int a0)] M 0 []
  refine J_iload_n (pc := 0) dX4_isChange_0 rfl 0 rfl ?_
  refine J_i2l (pc := 1) dX4_isChange_1 ?_
  refine J_ldc2 (pc := 2) w_1173 dX4_isChange_2 ?_
  refine J_ldc2 (pc := 5) w_1108 dX4_isChange_5 ?_
  refine J_callS (g := mi_X4_in) (pc := 8) [.long a0.toInt64, .long (-3 : Int64), .long (3 : Int64)] [] ms_X4_in w_1104 (k_X4_in a0.toInt64 (-3 : Int64) (3 : Int64) _) rfl rfl ⟨⟨Nat.le_of_ble_eq_true rfl, Nat.le_of_ble_eq_true rfl⟩, Nat.le_of_ble_eq_true rfl, Nat.le_of_ble_eq_true rfl⟩ (Nat.le_of_ble_eq_true rfl) dX4_isChange_8 (Jk_v rfl rfl fun hok1 => ?_)
  refine J_if_eq (pc := 11) (tgt := 22) dX4_isChange_11 (by decide) (fun c2 => ?_) (fun c2 => ?_)
  · replace h := ifp c2 h
    refine J_iconst (v := (0 : Int32)) (pc := 22) dX4_isChange_22 (by decide) ?_
    subst h
    exact J_zreturn dX4_isChange_23 rfl (Or.inl rfl) rfl rfl rfl rfl
  · replace h := ifn c2 h
    refine J_iload_n (pc := 14) dX4_isChange_14 rfl 0 rfl ?_
    refine J_if_eq (pc := 15) (tgt := 22) dX4_isChange_15 (by decide) (fun c3 => ?_) (fun c3 => ?_)
    · replace h := ifp c3 h
      refine J_iconst (v := (0 : Int32)) (pc := 22) dX4_isChange_22 (by decide) ?_
      subst h
      exact J_zreturn dX4_isChange_23 rfl (Or.inl rfl) rfl rfl rfl rfl
    · replace h := ifn c3 h
      refine J_iconst (v := (1 : Int32)) (pc := 18) dX4_isChange_18 (by decide) ?_
      refine J_goto (pc := 19) (tgt := 23) dX4_isChange_19 (by decide) ?_
      subst h
      exact J_zreturn dX4_isChange_23 rfl (Or.inr rfl) rfl rfl rfl rfl
set_option maxHeartbeats 4000000 in
set_option maxRecDepth 100000 in
theorem k_X4_slide {E : En} (a1 : Int32) (a2 : Int32) (M : Wd) {r : Int32} {M' : Wd} (h : F_X4_slide a1 a2 M = some (r, M')) : Con E mi_X4_slide [.ref 53, .int a1, .int a2] M (.inl (some (.int r))) M' := by
  unfold F_X4_slide at h
  refine Con.of (by decide) rfl (Nat.le_of_ble_eq_true rfl) (fun κ => ?_)
  show J κ E mi_X4_slide _ 0 0 [(0, .ref 53), (1, .int a1), (2, .int a2)] M 0 []
  refine J_aload_n (pc := 0) dX4_slide_0 rfl 0 rfl ?_
  refine J_aload_n (pc := 1) dX4_slide_1 rfl 0 rfl ?_
  refine J_iload_n (pc := 2) dX4_slide_2 rfl 1 rfl ?_
  refine J_callV (g := mi_X4_isCar) (ci := 4) (pc := 3) [.int a1] [.ref 53] mv_X4_isCar w_1166 (k_X4_isCar a1 _) rfl (by decide) rfl rfl rfl ⟨⟨Nat.le_of_ble_eq_true rfl, Nat.le_of_ble_eq_true rfl⟩, Nat.le_of_ble_eq_true rfl, Nat.le_of_ble_eq_true rfl⟩ (Nat.le_of_ble_eq_true rfl) dX4_slide_3 (Jk_v rfl rfl fun hok1 => ?_)
  obtain ⟨v2, hv11, h⟩ := obind_e h
  refine J_join [(0, .ref 53), (1, .int a1), (2, .int a2)] M 50 [.int v2, .ref 53] ?_ (fun hJ => ?_)
  · obtain ⟨v12, M13, hc14, h⟩ := obind2_e h
    refine J_callV (g := mi_X4_refused) (ci := 4) (pc := 50) [.int v2] [] mv_X4_refused w_1120 (k_X4_refused v2 _ hc14) rfl (by decide) rfl rfl rfl ⟨⟨Nat.le_of_ble_eq_true rfl, Nat.le_of_ble_eq_true rfl⟩, Nat.le_of_ble_eq_true rfl, Nat.le_of_ble_eq_true rfl⟩ (Nat.le_of_ble_eq_true rfl) dX4_slide_50 (Jk_v rfl rfl fun hok15 => ?_)
    refine J_if_eq (pc := 53) (tgt := 58) dX4_slide_53 (by decide) (fun c16 => ?_) (fun c16 => ?_)
    · replace h := ifp c16 h
      refine J_aload_n (pc := 58) dX4_slide_58 rfl 0 rfl ?_
      obtain ⟨M17, hc18, h⟩ := obind_e h
      refine J_callV (g := mi_X4_saves) (ci := 4) (pc := 59) [] [] mv_X4_saves w_1124 (k_X4_saves _ hc18) rfl (by decide) rfl rfl rfl ⟨⟨Nat.le_of_ble_eq_true rfl, Nat.le_of_ble_eq_true rfl⟩, Nat.le_of_ble_eq_true rfl, Nat.le_of_ble_eq_true rfl⟩ (Nat.le_of_ble_eq_true rfl) dX4_slide_59 (Jk_0 rfl rfl ?_)
      refine J_aload_n (pc := 62) dX4_slide_62 rfl 0 rfl ?_
      refine J_iload_n (pc := 63) dX4_slide_63 rfl 1 rfl ?_
      refine J_iload_n (pc := 64) dX4_slide_64 rfl 2 rfl ?_
      obtain ⟨v19, M20, hc21, h⟩ := obind2_e h
      refine J_callV (g := mi_X4_slideOn) (ci := 4) (pc := 65) [.int a1, .int a2] [] mv_X4_slideOn w_1182 (k_X4_slideOn a1 a2 _ hc21) rfl (by decide) rfl rfl rfl ⟨⟨Nat.le_of_ble_eq_true rfl, Nat.le_of_ble_eq_true rfl⟩, Nat.le_of_ble_eq_true rfl, Nat.le_of_ble_eq_true rfl⟩ (Nat.le_of_ble_eq_true rfl) dX4_slide_65 (Jk_v rfl rfl fun hok22 => ?_)
      cases h
      exact J_ireturn dX4_slide_68 rfl rfl rfl rfl rfl
    · replace h := ifn c16 h
      refine J_iconst (v := (0 : Int32)) (pc := 56) dX4_slide_56 (by decide) ?_
      cases h
      exact J_ireturn dX4_slide_57 rfl rfl rfl rfl rfl
  · replace h := hv11
    refine J_if_ne (pc := 6) (tgt := 13) dX4_slide_6 (by decide) (fun c3 => ?_) (fun c3 => ?_)
    · replace h := ifn c3 h
      refine J_iload_n (pc := 13) dX4_slide_13 rfl 2 rfl ?_
      refine J_callS (g := mi_X4_isChange) (pc := 14) [.int a2] [.ref 53] ms_X4_isChange w_1170 (k_X4_isChange a2 _) rfl rfl ⟨⟨Nat.le_of_ble_eq_true rfl, Nat.le_of_ble_eq_true rfl⟩, Nat.le_of_ble_eq_true rfl, Nat.le_of_ble_eq_true rfl⟩ (Nat.le_of_ble_eq_true rfl) dX4_slide_14 (Jk_v rfl rfl fun hok4 => ?_)
      refine J_if_ne (pc := 17) (tgt := 24) dX4_slide_17 (by decide) (fun c5 => ?_) (fun c5 => ?_)
      · replace h := ifn c5 h
        refine J_aload_n (pc := 24) dX4_slide_24 rfl 0 rfl ?_
        refine J_iload_n (pc := 25) dX4_slide_25 rfl 1 rfl ?_
        refine J_iload_n (pc := 26) dX4_slide_26 rfl 2 rfl ?_
        obtain ⟨v6, hc7, h⟩ := obind_e h
        refine J_callV (g := mi_X4_canSlide) (ci := 4) (pc := 27) [.int a1, .int a2] [.ref 53] mv_X4_canSlide w_1174 (k_X4_canSlide a1 a2 _ hc7) rfl (by decide) rfl rfl rfl ⟨⟨Nat.le_of_ble_eq_true rfl, Nat.le_of_ble_eq_true rfl⟩, Nat.le_of_ble_eq_true rfl, Nat.le_of_ble_eq_true rfl⟩ (Nat.le_of_ble_eq_true rfl) dX4_slide_27 (Jk_v rfl rfl fun hok8 => ?_)
        refine J_if_eq (pc := 30) (tgt := 49) dX4_slide_30 (by decide) (fun c9 => ?_) (fun c9 => ?_)
        · replace h := ifp c9 h
          refine J_iconst (v := (3 : Int32)) (pc := 49) dX4_slide_49 (by decide) ?_
          cases h
          exact hJ
        · replace h := ifn c9 h
          refine J_aload_n (pc := 33) dX4_slide_33 rfl 0 rfl ?_
          refine get_53_3 (pc := 34) w_1026 dX4_slide_34 ?_
          refine J_bipush (v := (20 : Int32)) (pc := 37) dX4_slide_37 (by decide) ?_
          refine J_iald (c := 55) (N := 82) (pc := 39) ja_55 (Nat.le_of_ble_eq_true rfl) (vpc rfl) dX4_slide_39 ?_
          refine J_topi (x := M.1 55 (Int32.toNatClampNeg 20)) (y := (M.1 55 20)) (Eq.symm (a := M.1 55 (Int32.toNatClampNeg 20)) (show M.1 55 20 = (M.1 55 20) from rfl)) ?_
          refine J_bipush (v := (60 : Int32)) (pc := 40) dX4_slide_40 (by decide) ?_
          refine J_icmp_ge (pc := 42) (tgt := 49) dX4_slide_42 (by decide) (fun c10 => ?_) (fun c10 => ?_)
          · replace h := ifp c10 h
            refine J_iconst (v := (3 : Int32)) (pc := 49) dX4_slide_49 (by decide) ?_
            cases h
            exact hJ
          · replace h := ifn c10 h
            refine J_iconst (v := (0 : Int32)) (pc := 45) dX4_slide_45 (by decide) ?_
            refine J_goto (pc := 46) (tgt := 50) dX4_slide_46 (by decide) ?_
            cases h
            exact hJ
      · replace h := ifp c5 h
        refine J_iconst (v := (2 : Int32)) (pc := 20) dX4_slide_20 (by decide) ?_
        refine J_goto (pc := 21) (tgt := 50) dX4_slide_21 (by decide) ?_
        cases h
        exact hJ
    · replace h := ifp c3 h
      refine J_iconst (v := (1 : Int32)) (pc := 9) dX4_slide_9 (by decide) ?_
      refine J_goto (pc := 10) (tgt := 50) dX4_slide_10 (by decide) ?_
      cases h
      exact hJ
set_option maxHeartbeats 4000000 in
set_option maxRecDepth 100000 in
theorem k_X4_takeBack {E : En} (M : Wd) {r : Int32} {M' : Wd} (h : F_X4_takeBack M = some (r, M')) : Con E mi_X4_takeBack [.ref 53] M (.inl (some (.int r))) M' := by
  unfold F_X4_takeBack at h
  refine Con.of (by decide) rfl (Nat.le_of_ble_eq_true rfl) (fun κ => ?_)
  show J κ E mi_X4_takeBack _ 0 0 [(0, .ref 53)] M 0 []
  refine J_aload_n (pc := 0) dX4_takeBack_0 rfl 0 rfl ?_
  refine J_aload_n (pc := 1) dX4_takeBack_1 rfl 0 rfl ?_
  refine get_53_3 (pc := 2) w_1026 dX4_takeBack_2 ?_
  refine J_bipush (v := (20 : Int32)) (pc := 5) dX4_takeBack_5 (by decide) ?_
  refine J_iald (c := 55) (N := 82) (pc := 7) ja_55 (Nat.le_of_ble_eq_true rfl) (vpc rfl) dX4_takeBack_7 ?_
  refine J_topi (x := M.1 55 (Int32.toNatClampNeg 20)) (y := (M.1 55 20)) (Eq.symm (a := M.1 55 (Int32.toNatClampNeg 20)) (show M.1 55 20 = (M.1 55 20) from rfl)) ?_
  obtain ⟨v1, e2, h⟩ := bnd_e h
  have hb4 : isB v1 := by rw [e2]; repeat (first | exact Or.inl rfl | exact Or.inr rfl | assumption | exact okB_b (by assumption) | apply isB_ite)
  refine J_join [(0, .ref 53)] M 16 [.int v1, .ref 53] ?_ (fun hJ => ?_)
  · obtain ⟨v5, M6, hc7, h⟩ := obind2_e h
    refine J_callV (g := mi_X4_refused) (ci := 4) (pc := 16) [.int v1] [] mv_X4_refused w_1120 (k_X4_refused v1 _ hc7) rfl (by decide) rfl rfl rfl ⟨⟨Nat.le_of_ble_eq_true rfl, Nat.le_of_ble_eq_true rfl⟩, Nat.le_of_ble_eq_true rfl, Nat.le_of_ble_eq_true rfl⟩ (Nat.le_of_ble_eq_true rfl) dX4_takeBack_16 (Jk_v rfl rfl fun hok8 => ?_)
    refine J_if_eq (pc := 19) (tgt := 24) dX4_takeBack_19 (by decide) (fun c9 => ?_) (fun c9 => ?_)
    · replace h := ifp c9 h
      refine J_aload_n (pc := 24) dX4_takeBack_24 rfl 0 rfl ?_
      obtain ⟨M10, hc11, h⟩ := obind_e h
      refine J_callV (g := mi_X4_saves) (ci := 4) (pc := 25) [] [] mv_X4_saves w_1124 (k_X4_saves _ hc11) rfl (by decide) rfl rfl rfl ⟨⟨Nat.le_of_ble_eq_true rfl, Nat.le_of_ble_eq_true rfl⟩, Nat.le_of_ble_eq_true rfl, Nat.le_of_ble_eq_true rfl⟩ (Nat.le_of_ble_eq_true rfl) dX4_takeBack_25 (Jk_0 rfl rfl ?_)
      refine J_aload_n (pc := 28) dX4_takeBack_28 rfl 0 rfl ?_
      obtain ⟨v12, M13, hc14, h⟩ := obind2_e h
      refine J_callV (g := mi_X4_backOn) (ci := 4) (pc := 29) [] [] mv_X4_backOn w_1190 (k_X4_backOn _ hc14) rfl (by decide) rfl rfl rfl ⟨⟨Nat.le_of_ble_eq_true rfl, Nat.le_of_ble_eq_true rfl⟩, Nat.le_of_ble_eq_true rfl, Nat.le_of_ble_eq_true rfl⟩ (Nat.le_of_ble_eq_true rfl) dX4_takeBack_29 (Jk_v rfl rfl fun hok15 => ?_)
      cases h
      exact J_ireturn dX4_takeBack_32 rfl rfl rfl rfl rfl
    · replace h := ifn c9 h
      refine J_iconst (v := (0 : Int32)) (pc := 22) dX4_takeBack_22 (by decide) ?_
      cases h
      exact J_ireturn dX4_takeBack_23 rfl rfl rfl rfl rfl
  · refine J_if_le (pc := 8) (tgt := 15) dX4_takeBack_8 (by decide) (fun c3 => ?_) (fun c3 => ?_)
    · refine J_iconst (v := (1 : Int32)) (pc := 15) dX4_takeBack_15 (by decide) ?_
      refine J_topi (y := v1) (by rw [e2, if_pos c3]) ?_
      exact hJ
    · refine J_iconst (v := (0 : Int32)) (pc := 11) dX4_takeBack_11 (by decide) ?_
      refine J_goto (pc := 12) (tgt := 16) dX4_takeBack_12 (by decide) ?_
      refine J_topi (y := v1) (by rw [e2, if_neg c3]) ?_
      exact hJ
set_option maxHeartbeats 4000000 in
set_option maxRecDepth 100000 in
theorem kL_X4_rewind_L17 {κ : Kx} {E : En} {Q : State → Prop} {ρ : Type} {r : ρ} (a1 : Int32) (K35 : Wd → Option ρ) (hK35 : ∀ (M : Wd), K35 M = some r → J κ E mi_X4_rewind Q 0 0 [(1, .int a1)] M 35 []) : ∀ (m : Nat) (M : Wd), F_X4_rewind_L17 a1 K35 m M = some r → J κ E mi_X4_rewind Q 0 0 [(0, .ref 53), (1, .int a1)] M 17 [] := by
  intro m
  induction m with
  | zero => intro M h; exact (nomatch (show (none : Option ρ) = some r from h))
  | succ m ih =>
    intro M h
    unfold F_X4_rewind_L17 at h
    refine J_aload_n (pc := 17) dX4_rewind_17 rfl 0 rfl ?_
    refine get_53_3 (pc := 18) w_1026 dX4_rewind_18 ?_
    refine J_bipush (v := (20 : Int32)) (pc := 21) dX4_rewind_21 (by decide) ?_
    refine J_iald (c := 55) (N := 82) (pc := 23) ja_55 (Nat.le_of_ble_eq_true rfl) (vpc rfl) dX4_rewind_23 ?_
    refine J_topi (x := M.1 55 (Int32.toNatClampNeg 20)) (y := (M.1 55 20)) (Eq.symm (a := M.1 55 (Int32.toNatClampNeg 20)) (show M.1 55 20 = (M.1 55 20) from rfl)) ?_
    refine J_if_le (pc := 24) (tgt := 35) dX4_rewind_24 (by decide) (fun c5 => ?_) (fun c5 => ?_)
    · replace h := ifp c5 h
      refine J_sub [1] rfl ?_
      exact hK35 _ h
    · replace h := ifn c5 h
      refine J_aload_n (pc := 27) dX4_rewind_27 rfl 0 rfl ?_
      obtain ⟨v6, M7, hc8, h⟩ := obind2_e h
      refine J_callV (g := mi_X4_backOn) (ci := 4) (pc := 28) [] [] mv_X4_backOn w_1190 (k_X4_backOn _ hc8) rfl (by decide) rfl rfl rfl ⟨⟨Nat.le_of_ble_eq_true rfl, Nat.le_of_ble_eq_true rfl⟩, Nat.le_of_ble_eq_true rfl, Nat.le_of_ble_eq_true rfl⟩ (Nat.le_of_ble_eq_true rfl) dX4_rewind_28 (Jk_v rfl rfl fun hok9 => ?_)
      refine J_pop (pc := 31) dX4_rewind_31 rfl ?_
      refine J_goto (pc := 32) (tgt := 17) dX4_rewind_32 (by decide) ?_
      exact ih _ h
set_option maxHeartbeats 4000000 in
set_option maxRecDepth 100000 in
theorem k_X4_rewind {E : En} (M : Wd) {r : Int32} {M' : Wd} (h : F_X4_rewind M = some (r, M')) : Con E mi_X4_rewind [.ref 53] M (.inl (some (.int r))) M' := by
  unfold F_X4_rewind at h
  refine Con.of (by decide) rfl (Nat.le_of_ble_eq_true rfl) (fun κ => ?_)
  show J κ E mi_X4_rewind _ 0 0 [(0, .ref 53)] M 0 []
  refine J_aload_n (pc := 0) dX4_rewind_0 rfl 0 rfl ?_
  refine J_iconst (v := (0 : Int32)) (pc := 1) dX4_rewind_1 (by decide) ?_
  refine put_53_0 (pc := 2) w_1023 dX4_rewind_2 ?_
  refine J_aload_n (pc := 5) dX4_rewind_5 rfl 0 rfl ?_
  obtain ⟨M1, hc2, h⟩ := obind_e h
  refine J_callV (g := mi_X4_saves) (ci := 4) (pc := 6) [] [] mv_X4_saves w_1124 (k_X4_saves _ hc2) rfl (by decide) rfl rfl rfl ⟨⟨Nat.le_of_ble_eq_true rfl, Nat.le_of_ble_eq_true rfl⟩, Nat.le_of_ble_eq_true rfl, Nat.le_of_ble_eq_true rfl⟩ (Nat.le_of_ble_eq_true rfl) dX4_rewind_6 (Jk_0 rfl rfl ?_)
  refine J_aload_n (pc := 9) dX4_rewind_9 rfl 0 rfl ?_
  refine get_53_3 (pc := 10) w_1026 dX4_rewind_10 ?_
  refine J_bipush (v := (20 : Int32)) (pc := 13) dX4_rewind_13 (by decide) ?_
  refine J_iald (c := 55) (N := 82) (pc := 15) ja_55 (Nat.le_of_ble_eq_true rfl) (vpc rfl) dX4_rewind_15 ?_
  refine J_topi (x := M1.1 55 (Int32.toNatClampNeg 20)) (y := (M1.1 55 20)) (Eq.symm (a := M1.1 55 (Int32.toNatClampNeg 20)) (show M1.1 55 20 = (M1.1 55 20) from rfl)) ?_
  obtain ⟨v3, e4, h⟩ := bnd_e h
  refine J_topi e4 ?_
  refine J_istore_n (pc := 16) dX4_rewind_16 rfl (Nat.le_of_ble_eq_true rfl) [1, 0] rfl ?_
  refine kL_X4_rewind_L17 _ _ (fun M10 h => ?_) fuelN _ h
  refine J_iload_n (pc := 35) dX4_rewind_35 rfl 0 rfl ?_
  cases h
  exact J_ireturn dX4_rewind_36 rfl rfl rfl rfl rfl
set_option maxHeartbeats 4000000 in
set_option maxRecDepth 100000 in
theorem k_X4_driveOut {E : En} (M : Wd) {r : Int32} {M' : Wd} (h : F_X4_driveOut M = some (r, M')) : Con E mi_X4_driveOut [.ref 53] M (.inl (some (.int r))) M' := by
  unfold F_X4_driveOut at h
  refine Con.of (by decide) rfl (Nat.le_of_ble_eq_true rfl) (fun κ => ?_)
  show J κ E mi_X4_driveOut _ 0 0 [(0, .ref 53)] M 0 []
  refine J_aload_n (pc := 0) dX4_driveOut_0 rfl 0 rfl ?_
  refine J_aload_n (pc := 1) dX4_driveOut_1 rfl 0 rfl ?_
  obtain ⟨v1, M2, hc3, h⟩ := obind2_e h
  refine J_callV (g := mi_X4_canDrive) (ci := 4) (pc := 2) [] [.ref 53] mv_X4_canDrive w_1210 (k_X4_canDrive _ hc3) rfl (by decide) rfl rfl rfl ⟨⟨Nat.le_of_ble_eq_true rfl, Nat.le_of_ble_eq_true rfl⟩, Nat.le_of_ble_eq_true rfl, Nat.le_of_ble_eq_true rfl⟩ (Nat.le_of_ble_eq_true rfl) dX4_driveOut_2 (Jk_v rfl rfl fun hok4 => ?_)
  obtain ⟨v5, e6, h⟩ := bnd_e h
  have hb8 : isB v5 := by rw [e6]; repeat (first | exact Or.inl rfl | exact Or.inr rfl | assumption | exact okB_b (by assumption) | apply isB_ite)
  refine J_join [(0, .ref 53)] M2 13 [.int v5, .ref 53] ?_ (fun hJ => ?_)
  · obtain ⟨v9, M10, hc11, h⟩ := obind2_e h
    refine J_callV (g := mi_X4_refused) (ci := 4) (pc := 13) [.int v5] [] mv_X4_refused w_1120 (k_X4_refused v5 _ hc11) rfl (by decide) rfl rfl rfl ⟨⟨Nat.le_of_ble_eq_true rfl, Nat.le_of_ble_eq_true rfl⟩, Nat.le_of_ble_eq_true rfl, Nat.le_of_ble_eq_true rfl⟩ (Nat.le_of_ble_eq_true rfl) dX4_driveOut_13 (Jk_v rfl rfl fun hok12 => ?_)
    refine J_if_eq (pc := 16) (tgt := 21) dX4_driveOut_16 (by decide) (fun c13 => ?_) (fun c13 => ?_)
    · replace h := ifp c13 h
      refine J_aload_n (pc := 21) dX4_driveOut_21 rfl 0 rfl ?_
      obtain ⟨M14, hc15, h⟩ := obind_e h
      refine J_callV (g := mi_X4_saves) (ci := 4) (pc := 22) [] [] mv_X4_saves w_1124 (k_X4_saves _ hc15) rfl (by decide) rfl rfl rfl ⟨⟨Nat.le_of_ble_eq_true rfl, Nat.le_of_ble_eq_true rfl⟩, Nat.le_of_ble_eq_true rfl, Nat.le_of_ble_eq_true rfl⟩ (Nat.le_of_ble_eq_true rfl) dX4_driveOut_22 (Jk_0 rfl rfl ?_)
      refine J_aload_n (pc := 25) dX4_driveOut_25 rfl 0 rfl ?_
      obtain ⟨v16, M17, hc18, h⟩ := obind2_e h
      refine J_callV (g := mi_X4_driveOn) (ci := 4) (pc := 26) [] [] mv_X4_driveOn w_1258 (k_X4_driveOn _ hc18) rfl (by decide) rfl rfl rfl ⟨⟨Nat.le_of_ble_eq_true rfl, Nat.le_of_ble_eq_true rfl⟩, Nat.le_of_ble_eq_true rfl, Nat.le_of_ble_eq_true rfl⟩ (Nat.le_of_ble_eq_true rfl) dX4_driveOut_26 (Jk_v rfl rfl fun hok19 => ?_)
      cases h
      exact J_ireturn dX4_driveOut_29 rfl rfl rfl rfl rfl
    · replace h := ifn c13 h
      refine J_iconst (v := (0 : Int32)) (pc := 19) dX4_driveOut_19 (by decide) ?_
      cases h
      exact J_ireturn dX4_driveOut_20 rfl rfl rfl rfl rfl
  · refine J_if_eq (pc := 5) (tgt := 12) dX4_driveOut_5 (by decide) (fun c7 => ?_) (fun c7 => ?_)
    · refine J_iconst (v := (1 : Int32)) (pc := 12) dX4_driveOut_12 (by decide) ?_
      refine J_topi (y := v5) (by rw [e6, if_pos c7]) ?_
      exact hJ
    · refine J_iconst (v := (0 : Int32)) (pc := 8) dX4_driveOut_8 (by decide) ?_
      refine J_goto (pc := 9) (tgt := 13) dX4_driveOut_9 (by decide) ?_
      refine J_topi (y := v5) (by rw [e6, if_neg c7]) ?_
      exact hJ
set_option maxHeartbeats 4000000 in
set_option maxRecDepth 100000 in
theorem k_X4_append {E : En} (a1 : Int32) (M : Wd) {r : Int32} {M' : Wd} (h : F_X4_append a1 M = some (r, M')) : Con E mi_X4_append [.ref 53, .int a1] M (.inl (some (.int r))) M' := by
  unfold F_X4_append at h
  refine Con.of (by decide) rfl (Nat.le_of_ble_eq_true rfl) (fun κ => ?_)
  show J κ E mi_X4_append _ 0 0 [(0, .ref 53), (1, .int a1)] M 0 []
  refine J_aload_n (pc := 0) dX4_append_0 rfl 0 rfl ?_
  refine J_iload_n (pc := 1) dX4_append_1 rfl 1 rfl ?_
  refine J_i2l (pc := 2) dX4_append_2 ?_
  refine J_ldc2 (pc := 3) w_1270 dX4_append_3 ?_
  refine J_ldc2 (pc := 6) w_1271 dX4_append_6 ?_
  refine J_callS (g := mi_X4_in) (pc := 9) [.long a1.toInt64, .long (33 : Int64), .long (126 : Int64)] [.ref 53] ms_X4_in w_1104 (k_X4_in a1.toInt64 (33 : Int64) (126 : Int64) _) rfl rfl ⟨⟨Nat.le_of_ble_eq_true rfl, Nat.le_of_ble_eq_true rfl⟩, Nat.le_of_ble_eq_true rfl, Nat.le_of_ble_eq_true rfl⟩ (Nat.le_of_ble_eq_true rfl) dX4_append_9 (Jk_v rfl rfl fun hok1 => ?_)
  obtain ⟨v2, e3, h⟩ := bnd_e h
  refine J_join [(0, .ref 53), (1, .int a1)] M 33 [.int v2, .ref 53] ?_ (fun hJ => ?_)
  · obtain ⟨v6, M7, hc8, h⟩ := obind2_e h
    refine J_callV (g := mi_X4_refused) (ci := 4) (pc := 33) [.int v2] [] mv_X4_refused w_1120 (k_X4_refused v2 _ hc8) rfl (by decide) rfl rfl rfl ⟨⟨Nat.le_of_ble_eq_true rfl, Nat.le_of_ble_eq_true rfl⟩, Nat.le_of_ble_eq_true rfl, Nat.le_of_ble_eq_true rfl⟩ (Nat.le_of_ble_eq_true rfl) dX4_append_33 (Jk_v rfl rfl fun hok9 => ?_)
    refine J_if_eq (pc := 36) (tgt := 41) dX4_append_36 (by decide) (fun c10 => ?_) (fun c10 => ?_)
    · replace h := ifp c10 h
      refine J_aload_n (pc := 41) dX4_append_41 rfl 0 rfl ?_
      refine get_53_1 (pc := 42) w_1024 dX4_append_42 ?_
      refine J_aload_n (pc := 45) dX4_append_45 rfl 0 rfl ?_
      refine get_53_2 (pc := 46) w_1025 dX4_append_46 ?_
      refine J_iload_n (pc := 49) dX4_append_49 rfl 1 rfl ?_
      obtain ⟨hk11, h⟩ := inb_e h
      refine J_iast (c := 54) (N := 60) (pc := 50) (fun _ => ja_54) (Nat.le_of_ble_eq_true rfl) hk11 dX4_append_50 ?_
      refine J_aload_n (pc := 51) dX4_append_51 rfl 0 rfl ?_
      refine J_dup (pc := 52) dX4_append_52 rfl ?_
      refine get_53_2 (pc := 53) w_1025 dX4_append_53 ?_
      refine J_topi (y := (M7.1 53 2)) (Eq.symm (show (upI M7 54 (M7.1 53 2).toNatClampNeg a1).1 53 2 = (M7.1 53 2) from (eI_ne (Nat.ne_of_beq_eq_false rfl) rfl))) ?_
      refine J_iconst (v := (1 : Int32)) (pc := 56) dX4_append_56 (by decide) ?_
      refine J_iadd (pc := 57) dX4_append_57 ?_
      refine put_53_2 (pc := 58) w_1025 dX4_append_58 ?_
      refine J_aload_n (pc := 61) dX4_append_61 rfl 0 rfl ?_
      refine get_53_2 (pc := 62) w_1025 dX4_append_62 ?_
      refine J_topi (y := ((M7.1 53 2) + (1 : Int32))) (Eq.symm (show (upI (upI M7 54 (M7.1 53 2).toNatClampNeg a1) 53 2 ((M7.1 53 2) + (1 : Int32))).1 53 2 = ((M7.1 53 2) + (1 : Int32)) from eI_kk)) ?_
      cases h
      exact J_ireturn dX4_append_65 rfl rfl rfl rfl rfl
    · replace h := ifn c10 h
      refine J_iconst (v := (0 : Int32)) (pc := 39) dX4_append_39 (by decide) ?_
      cases h
      exact J_ireturn dX4_append_40 rfl rfl rfl rfl rfl
  · refine J_if_ne (pc := 12) (tgt := 19) dX4_append_12 (by decide) (fun c4 => ?_) (fun c4 => ?_)
    · refine J_aload_n (pc := 19) dX4_append_19 rfl 0 rfl ?_
      refine get_53_2 (pc := 20) w_1025 dX4_append_20 ?_
      refine J_bipush (v := (60 : Int32)) (pc := 23) dX4_append_23 (by decide) ?_
      refine J_icmp_ne (pc := 25) (tgt := 32) dX4_append_25 (by decide) (fun c5 => ?_) (fun c5 => ?_)
      · refine J_iconst (v := (0 : Int32)) (pc := 32) dX4_append_32 (by decide) ?_
        refine J_topi (y := v2) (by rw [e3, if_neg c4, if_neg c5]) ?_
        exact hJ
      · refine J_iconst (v := (2 : Int32)) (pc := 28) dX4_append_28 (by decide) ?_
        refine J_goto (pc := 29) (tgt := 33) dX4_append_29 (by decide) ?_
        refine J_topi (y := v2) (by rw [e3, if_neg c4, if_pos c5]) ?_
        exact hJ
    · refine J_iconst (v := (1 : Int32)) (pc := 15) dX4_append_15 (by decide) ?_
      refine J_goto (pc := 16) (tgt := 33) dX4_append_16 (by decide) ?_
      refine J_topi (y := v2) (by rw [e3, if_pos c4]) ?_
      exact hJ
set_option maxHeartbeats 4000000 in
set_option maxRecDepth 100000 in
theorem k_X4_clearBuffer {E : En} (M : Wd) {r : Int32} {M' : Wd} (h : F_X4_clearBuffer M = some (r, M')) : Con E mi_X4_clearBuffer [.ref 53] M (.inl (some (.int r))) M' := by
  unfold F_X4_clearBuffer at h
  refine Con.of (by decide) rfl (Nat.le_of_ble_eq_true rfl) (fun κ => ?_)
  show J κ E mi_X4_clearBuffer _ 0 0 [(0, .ref 53)] M 0 []
  refine J_aload_n (pc := 0) dX4_clearBuffer_0 rfl 0 rfl ?_
  refine J_iconst (v := (0 : Int32)) (pc := 1) dX4_clearBuffer_1 (by decide) ?_
  refine put_53_0 (pc := 2) w_1023 dX4_clearBuffer_2 ?_
  refine J_aload_n (pc := 5) dX4_clearBuffer_5 rfl 0 rfl ?_
  refine get_53_2 (pc := 6) w_1025 dX4_clearBuffer_6 ?_
  refine J_topi (y := (M.1 53 2)) (Eq.symm (show (upI M 53 0 (0 : Int32)).1 53 2 = (M.1 53 2) from (eI_kn (Nat.ne_of_beq_eq_false rfl) rfl))) ?_
  obtain ⟨v1, e2, h⟩ := bnd_e h
  refine J_topi e2 ?_
  refine J_istore_n (pc := 9) dX4_clearBuffer_9 rfl (Nat.le_of_ble_eq_true rfl) [1, 0] rfl ?_
  refine J_aload_n (pc := 10) dX4_clearBuffer_10 rfl 0 rfl ?_
  refine J_iconst (v := (0 : Int32)) (pc := 11) dX4_clearBuffer_11 (by decide) ?_
  refine put_53_2 (pc := 12) w_1025 dX4_clearBuffer_12 ?_
  refine J_iload_n (pc := 15) dX4_clearBuffer_15 rfl 1 rfl ?_
  cases h
  exact J_ireturn dX4_clearBuffer_16 rfl rfl rfl rfl rfl
set_option maxHeartbeats 4000000 in
set_option maxRecDepth 100000 in
theorem k_X4_goesOn {E : En} (a1 : Int32) (M : Wd) {r : Int32} {M' : Wd} (h : F_X4_goesOn a1 M = some (r, M')) : Con E mi_X4_goesOn [.ref 53, .int a1] M (.inl (some (.int r))) M' := by
  unfold F_X4_goesOn at h
  refine Con.of (by decide) rfl (Nat.le_of_ble_eq_true rfl) (fun κ => ?_)
  show J κ E mi_X4_goesOn _ 0 0 [(0, .ref 53), (1, .int a1)] M 0 []
  refine J_aload_n (pc := 0) dX4_goesOn_0 rfl 0 rfl ?_
  refine get_53_15 (pc := 1) w_1038 dX4_goesOn_1 ?_
  refine J_aload_n (pc := 4) dX4_goesOn_4 rfl 0 rfl ?_
  refine get_53_2 (pc := 5) w_1025 dX4_goesOn_5 ?_
  obtain ⟨v1, hv7, h⟩ := obind_e h
  refine J_join [(0, .ref 53)] M 29 [.int v1] ?_ (fun hJ => ?_)
  · refine J_istore_n (pc := 29) dX4_goesOn_29 rfl (Nat.le_of_ble_eq_true rfl) [1, 0] rfl ?_
    refine J_aload_n (pc := 30) dX4_goesOn_30 rfl 0 rfl ?_
    refine J_dup (pc := 31) dX4_goesOn_31 rfl ?_
    refine get_53_15 (pc := 32) w_1038 dX4_goesOn_32 ?_
    refine J_iload_n (pc := 35) dX4_goesOn_35 rfl 1 rfl ?_
    obtain ⟨v8, e9, h⟩ := bnd_e h
    have hb11 : isB v8 := by rw [e9]; repeat (first | exact Or.inl rfl | exact Or.inr rfl | assumption | exact okB_b (by assumption) | apply isB_ite)
    refine J_join [(2, .int v1)] M 44 [.int v8, .int (M.1 53 15), .ref 53] ?_ (fun hJ => ?_)
    · refine J_iadd (pc := 44) dX4_goesOn_44 ?_
      refine put_53_15 (pc := 45) w_1038 dX4_goesOn_45 ?_
      refine J_iload_n (pc := 48) dX4_goesOn_48 rfl 0 rfl ?_
      obtain ⟨hb12, h⟩ := chB_e h
      cases h
      exact J_zreturn dX4_goesOn_49 rfl hb12 rfl rfl rfl rfl
    · refine J_if_eq (pc := 36) (tgt := 43) dX4_goesOn_36 (by decide) (fun c10 => ?_) (fun c10 => ?_)
      · refine J_iconst (v := (0 : Int32)) (pc := 43) dX4_goesOn_43 (by decide) ?_
        refine J_sub [1] rfl ?_
        refine J_topi (y := v8) (by rw [e9, if_pos c10]) ?_
        exact hJ
      · refine J_iconst (v := (1 : Int32)) (pc := 39) dX4_goesOn_39 (by decide) ?_
        refine J_goto (pc := 40) (tgt := 44) dX4_goesOn_40 (by decide) ?_
        refine J_sub [1] rfl ?_
        refine J_topi (y := v8) (by rw [e9, if_neg c10]) ?_
        exact hJ
  · replace h := hv7
    refine J_icmp_ge (pc := 8) (tgt := 28) dX4_goesOn_8 (by decide) (fun c2 => ?_) (fun c2 => ?_)
    · replace h := ifp c2 h
      refine J_iconst (v := (0 : Int32)) (pc := 28) dX4_goesOn_28 (by decide) ?_
      cases h
      refine J_sub [0] rfl ?_
      exact hJ
    · replace h := ifn c2 h
      refine J_aload_n (pc := 11) dX4_goesOn_11 rfl 0 rfl ?_
      refine get_53_1 (pc := 12) w_1024 dX4_goesOn_12 ?_
      refine J_aload_n (pc := 15) dX4_goesOn_15 rfl 0 rfl ?_
      refine get_53_15 (pc := 16) w_1038 dX4_goesOn_16 ?_
      obtain ⟨v3, e4, hk5, h⟩ := ldi_e h
      refine J_iald (c := 54) (N := 60) (pc := 19) ja_54 (Nat.le_of_ble_eq_true rfl) hk5 dX4_goesOn_19 ?_
      refine J_topi e4 ?_
      refine J_iload_n (pc := 20) dX4_goesOn_20 rfl 1 rfl ?_
      refine J_icmp_ne (pc := 21) (tgt := 28) dX4_goesOn_21 (by decide) (fun c6 => ?_) (fun c6 => ?_)
      · replace h := ifn c6 h
        refine J_iconst (v := (0 : Int32)) (pc := 28) dX4_goesOn_28 (by decide) ?_
        cases h
        refine J_sub [0] rfl ?_
        exact hJ
      · replace h := ifp c6 h
        refine J_iconst (v := (1 : Int32)) (pc := 24) dX4_goesOn_24 (by decide) ?_
        refine J_goto (pc := 25) (tgt := 29) dX4_goesOn_25 (by decide) ?_
        cases h
        refine J_sub [0] rfl ?_
        exact hJ
set_option maxHeartbeats 4000000 in
set_option maxRecDepth 100000 in
theorem k_X4_digit {E : En} (a1 : Int32) (a2 : Int32) (M : Wd) {r : Int32} {M' : Wd} (h : F_X4_digit a1 a2 M = some (r, M')) : Con E mi_X4_digit [.ref 53, .int a1, .int a2] M (.inl (some (.int r))) M' := by
  unfold F_X4_digit at h
  refine Con.of (by decide) rfl (Nat.le_of_ble_eq_true rfl) (fun κ => ?_)
  show J κ E mi_X4_digit _ 0 0 [(0, .ref 53), (1, .int a1), (2, .int a2)] M 0 []
  refine J_aload_n (pc := 0) dX4_digit_0 rfl 0 rfl ?_
  refine get_53_15 (pc := 1) w_1038 dX4_digit_1 ?_
  refine J_aload_n (pc := 4) dX4_digit_4 rfl 0 rfl ?_
  refine get_53_2 (pc := 5) w_1025 dX4_digit_5 ?_
  obtain ⟨v1, hv8, h⟩ := obind_e h
  refine J_join [(0, .ref 53)] M 39 [.int v1] ?_ (fun hJ => ?_)
  · refine J_istore_n (pc := 39) dX4_digit_39 rfl (Nat.le_of_ble_eq_true rfl) [1, 0] rfl ?_
    refine J_aload_n (pc := 40) dX4_digit_40 rfl 0 rfl ?_
    refine J_iload_n (pc := 41) dX4_digit_41 rfl 1 rfl ?_
    obtain ⟨v9, hv14, h⟩ := obind_e h
    refine J_join [(0, .ref 53), (3, .int v1)] M 64 [.int v9, .ref 53] ?_ (fun hJ => ?_)
    · refine put_53_18 (pc := 64) w_1041 dX4_digit_64 ?_
      refine J_aload_n (pc := 67) dX4_digit_67 rfl 0 rfl ?_
      refine J_dup (pc := 68) dX4_digit_68 rfl ?_
      refine get_53_15 (pc := 69) w_1038 dX4_digit_69 ?_
      refine J_topi (y := (M.1 53 15)) (Eq.symm (show (upI M 53 18 v9).1 53 15 = (M.1 53 15) from (eI_kn (Nat.ne_of_beq_eq_false rfl) rfl))) ?_
      refine J_iload_n (pc := 72) dX4_digit_72 rfl 1 rfl ?_
      obtain ⟨v15, e16, h⟩ := bnd_e h
      have hb18 : isB v15 := by rw [e16]; repeat (first | exact Or.inl rfl | exact Or.inr rfl | assumption | exact okB_b (by assumption) | apply isB_ite)
      refine J_join [(3, .int v1)] (upI M 53 18 v9) 81 [.int v15, .int (M.1 53 15), .ref 53] ?_ (fun hJ => ?_)
      · refine J_iadd (pc := 81) dX4_digit_81 ?_
        refine put_53_15 (pc := 82) w_1038 dX4_digit_82 ?_
        refine J_iload_n (pc := 85) dX4_digit_85 rfl 0 rfl ?_
        obtain ⟨hb19, h⟩ := chB_e h
        cases h
        exact J_zreturn dX4_digit_86 rfl hb19 rfl rfl rfl rfl
      · refine J_if_eq (pc := 73) (tgt := 80) dX4_digit_73 (by decide) (fun c17 => ?_) (fun c17 => ?_)
        · refine J_iconst (v := (0 : Int32)) (pc := 80) dX4_digit_80 (by decide) ?_
          refine J_sub [1] rfl ?_
          refine J_topi (y := v15) (by rw [e16, if_pos c17]) ?_
          exact hJ
        · refine J_iconst (v := (1 : Int32)) (pc := 76) dX4_digit_76 (by decide) ?_
          refine J_goto (pc := 77) (tgt := 81) dX4_digit_77 (by decide) ?_
          refine J_sub [1] rfl ?_
          refine J_topi (y := v15) (by rw [e16, if_neg c17]) ?_
          exact hJ
    · replace h := hv14
      refine J_if_eq (pc := 42) (tgt := 60) dX4_digit_42 (by decide) (fun c10 => ?_) (fun c10 => ?_)
      · replace h := ifp c10 h
        refine J_aload_n (pc := 60) dX4_digit_60 rfl 0 rfl ?_
        refine get_53_18 (pc := 61) w_1041 dX4_digit_61 ?_
        cases h
        exact hJ
      · replace h := ifn c10 h
        refine J_aload_n (pc := 45) dX4_digit_45 rfl 0 rfl ?_
        refine get_53_1 (pc := 46) w_1024 dX4_digit_46 ?_
        refine J_aload_n (pc := 49) dX4_digit_49 rfl 0 rfl ?_
        refine get_53_15 (pc := 50) w_1038 dX4_digit_50 ?_
        obtain ⟨v11, e12, hk13, h⟩ := ldi_e h
        refine J_iald (c := 54) (N := 60) (pc := 53) ja_54 (Nat.le_of_ble_eq_true rfl) hk13 dX4_digit_53 ?_
        refine J_topi e12 ?_
        refine J_bipush (v := (48 : Int32)) (pc := 54) dX4_digit_54 (by decide) ?_
        refine J_isub (pc := 56) dX4_digit_56 ?_
        refine J_goto (pc := 57) (tgt := 64) dX4_digit_57 (by decide) ?_
        cases h
        exact hJ
  · replace h := hv8
    refine J_icmp_ge (pc := 8) (tgt := 38) dX4_digit_8 (by decide) (fun c2 => ?_) (fun c2 => ?_)
    · replace h := ifp c2 h
      refine J_iconst (v := (0 : Int32)) (pc := 38) dX4_digit_38 (by decide) ?_
      cases h
      refine J_sub [0] rfl ?_
      exact hJ
    · replace h := ifn c2 h
      refine J_aload_n (pc := 11) dX4_digit_11 rfl 0 rfl ?_
      refine get_53_1 (pc := 12) w_1024 dX4_digit_12 ?_
      refine J_aload_n (pc := 15) dX4_digit_15 rfl 0 rfl ?_
      refine get_53_15 (pc := 16) w_1038 dX4_digit_16 ?_
      obtain ⟨v3, e4, hk5, h⟩ := ldi_e h
      refine J_iald (c := 54) (N := 60) (pc := 19) ja_54 (Nat.le_of_ble_eq_true rfl) hk5 dX4_digit_19 ?_
      refine J_topi e4 ?_
      refine J_bipush (v := (48 : Int32)) (pc := 20) dX4_digit_20 (by decide) ?_
      refine J_isub (pc := 22) dX4_digit_22 ?_
      refine J_i2l (pc := 23) dX4_digit_23 ?_
      refine J_iload_n (pc := 24) dX4_digit_24 rfl 1 rfl ?_
      refine J_i2l (pc := 25) dX4_digit_25 ?_
      refine J_iload_n (pc := 26) dX4_digit_26 rfl 2 rfl ?_
      refine J_i2l (pc := 27) dX4_digit_27 ?_
      refine J_callS (g := mi_X4_in) (pc := 28) [.long (v3 - (48 : Int32)).toInt64, .long a1.toInt64, .long a2.toInt64] [] ms_X4_in w_1104 (k_X4_in (v3 - (48 : Int32)).toInt64 a1.toInt64 a2.toInt64 _) rfl rfl ⟨⟨Nat.le_of_ble_eq_true rfl, Nat.le_of_ble_eq_true rfl⟩, Nat.le_of_ble_eq_true rfl, Nat.le_of_ble_eq_true rfl⟩ (Nat.le_of_ble_eq_true rfl) dX4_digit_28 (Jk_v rfl rfl fun hok6 => ?_)
      refine J_if_eq (pc := 31) (tgt := 38) dX4_digit_31 (by decide) (fun c7 => ?_) (fun c7 => ?_)
      · replace h := ifp c7 h
        refine J_iconst (v := (0 : Int32)) (pc := 38) dX4_digit_38 (by decide) ?_
        cases h
        refine J_sub [0] rfl ?_
        exact hJ
      · replace h := ifn c7 h
        refine J_iconst (v := (1 : Int32)) (pc := 34) dX4_digit_34 (by decide) ?_
        refine J_goto (pc := 35) (tgt := 39) dX4_digit_35 (by decide) ?_
        cases h
        refine J_sub [0] rfl ?_
        exact hJ
set_option maxHeartbeats 4000000 in
set_option maxRecDepth 100000 in
theorem k_X4_car {E : En} (a1 : Int32) (M : Wd) {r : Int32} {M' : Wd} (h : F_X4_car a1 M = some (r, M')) : Con E mi_X4_car [.ref 53, .int a1] M (.inl (some (.int r))) M' := by
  unfold F_X4_car at h
  refine Con.of (by decide) rfl (Nat.le_of_ble_eq_true rfl) (fun κ => ?_)
  show J κ E mi_X4_car _ 0 0 [(0, .ref 53), (1, .int a1)] M 0 []
  refine J_aload_n (pc := 0) dX4_car_0 rfl 0 rfl ?_
  refine J_iconst (v := (0 : Int32)) (pc := 1) dX4_car_1 (by decide) ?_
  refine J_iconst (v := (4 : Int32)) (pc := 2) dX4_car_2 (by decide) ?_
  obtain ⟨v1, M2, hc3, h⟩ := obind2_e h
  refine J_callV (g := mi_X4_digit) (ci := 4) (pc := 3) [.int (0 : Int32), .int (4 : Int32)] [] mv_X4_digit w_1297 (k_X4_digit (0 : Int32) (4 : Int32) _ hc3) rfl (by decide) rfl rfl rfl ⟨⟨Nat.le_of_ble_eq_true rfl, Nat.le_of_ble_eq_true rfl⟩, Nat.le_of_ble_eq_true rfl, Nat.le_of_ble_eq_true rfl⟩ (Nat.le_of_ble_eq_true rfl) dX4_car_3 (Jk_v rfl rfl fun hok4 => ?_)
  refine J_if_ne (pc := 6) (tgt := 11) dX4_car_6 (by decide) (fun c5 => ?_) (fun c5 => ?_)
  · replace h := ifn c5 h
    refine J_aload_n (pc := 11) dX4_car_11 rfl 0 rfl ?_
    refine J_iload_n (pc := 12) dX4_car_12 rfl 1 rfl ?_
    refine J_aload_n (pc := 13) dX4_car_13 rfl 0 rfl ?_
    refine get_53_18 (pc := 14) w_1041 dX4_car_14 ?_
    refine J_iadd (pc := 17) dX4_car_17 ?_
    refine put_53_16 (pc := 18) w_1039 dX4_car_18 ?_
    refine J_aload_n (pc := 21) dX4_car_21 rfl 0 rfl ?_
    refine J_bipush (v := (46 : Int32)) (pc := 22) dX4_car_22 (by decide) ?_
    obtain ⟨v6, M7, hc8, h⟩ := obind2_e h
    refine J_callV (g := mi_X4_goesOn) (ci := 4) (pc := 24) [.int (46 : Int32)] [] mv_X4_goesOn w_1301 (k_X4_goesOn (46 : Int32) _ hc8) rfl (by decide) rfl rfl rfl ⟨⟨Nat.le_of_ble_eq_true rfl, Nat.le_of_ble_eq_true rfl⟩, Nat.le_of_ble_eq_true rfl, Nat.le_of_ble_eq_true rfl⟩ (Nat.le_of_ble_eq_true rfl) dX4_car_24 (Jk_v rfl rfl fun hok9 => ?_)
    refine J_if_eq (pc := 27) (tgt := 39) dX4_car_27 (by decide) (fun c10 => ?_) (fun c10 => ?_)
    · replace h := ifp c10 h
      refine J_iconst (v := (0 : Int32)) (pc := 39) dX4_car_39 (by decide) ?_
      cases h
      exact J_zreturn dX4_car_40 rfl (Or.inl rfl) rfl rfl rfl rfl
    · replace h := ifn c10 h
      refine J_aload_n (pc := 30) dX4_car_30 rfl 0 rfl ?_
      refine J_iconst (v := (0 : Int32)) (pc := 31) dX4_car_31 (by decide) ?_
      refine J_iconst (v := (3 : Int32)) (pc := 32) dX4_car_32 (by decide) ?_
      obtain ⟨v11, M12, hc13, h⟩ := obind2_e h
      refine J_callV (g := mi_X4_digit) (ci := 4) (pc := 33) [.int (0 : Int32), .int (3 : Int32)] [] mv_X4_digit w_1297 (k_X4_digit (0 : Int32) (3 : Int32) _ hc13) rfl (by decide) rfl rfl rfl ⟨⟨Nat.le_of_ble_eq_true rfl, Nat.le_of_ble_eq_true rfl⟩, Nat.le_of_ble_eq_true rfl, Nat.le_of_ble_eq_true rfl⟩ (Nat.le_of_ble_eq_true rfl) dX4_car_33 (Jk_v rfl rfl fun hok14 => ?_)
      refine J_if_ne (pc := 36) (tgt := 41) dX4_car_36 (by decide) (fun c15 => ?_) (fun c15 => ?_)
      · replace h := ifn c15 h
        refine J_aload_n (pc := 41) dX4_car_41 rfl 0 rfl ?_
        refine J_aload_n (pc := 42) dX4_car_42 rfl 0 rfl ?_
        refine get_53_18 (pc := 43) w_1041 dX4_car_43 ?_
        refine put_53_17 (pc := 46) w_1040 dX4_car_46 ?_
        refine J_aload_n (pc := 49) dX4_car_49 rfl 0 rfl ?_
        refine J_bipush (v := (42 : Int32)) (pc := 50) dX4_car_50 (by decide) ?_
        obtain ⟨v16, M17, hc18, h⟩ := obind2_e h
        refine J_callV (g := mi_X4_goesOn) (ci := 4) (pc := 52) [.int (42 : Int32)] [] mv_X4_goesOn w_1301 (k_X4_goesOn (42 : Int32) _ hc18) rfl (by decide) rfl rfl rfl ⟨⟨Nat.le_of_ble_eq_true rfl, Nat.le_of_ble_eq_true rfl⟩, Nat.le_of_ble_eq_true rfl, Nat.le_of_ble_eq_true rfl⟩ (Nat.le_of_ble_eq_true rfl) dX4_car_52 (Jk_v rfl rfl fun hok19 => ?_)
        refine J_if_eq (pc := 55) (tgt := 71) dX4_car_55 (by decide) (fun c20 => ?_) (fun c20 => ?_)
        · replace h := ifp c20 h
          refine J_iconst (v := (0 : Int32)) (pc := 71) dX4_car_71 (by decide) ?_
          cases h
          exact J_zreturn dX4_car_72 rfl (Or.inl rfl) rfl rfl rfl rfl
        · replace h := ifn c20 h
          refine J_aload_n (pc := 58) dX4_car_58 rfl 0 rfl ?_
          refine J_iconst (v := (2 : Int32)) (pc := 59) dX4_car_59 (by decide) ?_
          refine J_iconst (v := (3 : Int32)) (pc := 60) dX4_car_60 (by decide) ?_
          obtain ⟨v21, M22, hc23, h⟩ := obind2_e h
          refine J_callV (g := mi_X4_digit) (ci := 4) (pc := 61) [.int (2 : Int32), .int (3 : Int32)] [] mv_X4_digit w_1297 (k_X4_digit (2 : Int32) (3 : Int32) _ hc23) rfl (by decide) rfl rfl rfl ⟨⟨Nat.le_of_ble_eq_true rfl, Nat.le_of_ble_eq_true rfl⟩, Nat.le_of_ble_eq_true rfl, Nat.le_of_ble_eq_true rfl⟩ (Nat.le_of_ble_eq_true rfl) dX4_car_61 (Jk_v rfl rfl fun hok24 => ?_)
          refine J_if_eq (pc := 64) (tgt := 71) dX4_car_64 (by decide) (fun c25 => ?_) (fun c25 => ?_)
          · replace h := ifp c25 h
            refine J_iconst (v := (0 : Int32)) (pc := 71) dX4_car_71 (by decide) ?_
            cases h
            exact J_zreturn dX4_car_72 rfl (Or.inl rfl) rfl rfl rfl rfl
          · replace h := ifn c25 h
            refine J_iconst (v := (1 : Int32)) (pc := 67) dX4_car_67 (by decide) ?_
            refine J_goto (pc := 68) (tgt := 72) dX4_car_68 (by decide) ?_
            cases h
            exact J_zreturn dX4_car_72 rfl (Or.inr rfl) rfl rfl rfl rfl
      · replace h := ifp c15 h
        refine J_iconst (v := (0 : Int32)) (pc := 39) dX4_car_39 (by decide) ?_
        cases h
        exact J_zreturn dX4_car_40 rfl (Or.inl rfl) rfl rfl rfl rfl
  · replace h := ifp c5 h
    refine J_iconst (v := (0 : Int32)) (pc := 9) dX4_car_9 (by decide) ?_
    cases h
    exact J_zreturn dX4_car_10 rfl (Or.inl rfl) rfl rfl rfl rfl
set_option maxHeartbeats 4000000 in
set_option maxRecDepth 100000 in
theorem k_X4_cell {E : En} (M : Wd) {r : Int32} {M' : Wd} (h : F_X4_cell M = some (r, M')) : Con E mi_X4_cell [.ref 53] M (.inl (some (.int r))) M' := by
  unfold F_X4_cell at h
  refine Con.of (by decide) rfl (Nat.le_of_ble_eq_true rfl) (fun κ => ?_)
  show J κ E mi_X4_cell _ 0 0 [(0, .ref 53)] M 0 []
  refine J_aload_n (pc := 0) dX4_cell_0 rfl 0 rfl ?_
  refine J_iconst (v := (0 : Int32)) (pc := 1) dX4_cell_1 (by decide) ?_
  refine J_bipush (v := (9 : Int32)) (pc := 2) dX4_cell_2 (by decide) ?_
  obtain ⟨v1, M2, hc3, h⟩ := obind2_e h
  refine J_callV (g := mi_X4_digit) (ci := 4) (pc := 4) [.int (0 : Int32), .int (9 : Int32)] [] mv_X4_digit w_1297 (k_X4_digit (0 : Int32) (9 : Int32) _ hc3) rfl (by decide) rfl rfl rfl ⟨⟨Nat.le_of_ble_eq_true rfl, Nat.le_of_ble_eq_true rfl⟩, Nat.le_of_ble_eq_true rfl, Nat.le_of_ble_eq_true rfl⟩ (Nat.le_of_ble_eq_true rfl) dX4_cell_4 (Jk_v rfl rfl fun hok4 => ?_)
  refine J_if_ne (pc := 7) (tgt := 12) dX4_cell_7 (by decide) (fun c5 => ?_) (fun c5 => ?_)
  · replace h := ifn c5 h
    refine J_aload_n (pc := 12) dX4_cell_12 rfl 0 rfl ?_
    refine J_aload_n (pc := 13) dX4_cell_13 rfl 0 rfl ?_
    refine get_53_18 (pc := 14) w_1041 dX4_cell_14 ?_
    refine put_53_16 (pc := 17) w_1039 dX4_cell_17 ?_
    refine J_aload_n (pc := 20) dX4_cell_20 rfl 0 rfl ?_
    refine get_53_16 (pc := 21) w_1039 dX4_cell_21 ?_
    refine J_topi (y := (M2.1 53 18)) (Eq.symm (show (upI M2 53 16 (M2.1 53 18)).1 53 16 = (M2.1 53 18) from eI_kk)) ?_
    refine J_iconst (v := (1 : Int32)) (pc := 24) dX4_cell_24 (by decide) ?_
    obtain ⟨M6, hv25, h⟩ := obind_e h
    refine J_join [] M6 71 [] ?_ (fun hJ => ?_)
    · refine J_iconst (v := (1 : Int32)) (pc := 71) dX4_cell_71 (by decide) ?_
      cases h
      exact J_zreturn dX4_cell_72 rfl (Or.inr rfl) rfl rfl rfl rfl
    · replace h := hv25
      refine J_icmp_ne (pc := 25) (tgt := 38) dX4_cell_25 (by decide) (fun c7 => ?_) (fun c7 => ?_)
      · replace h := ifn c7 h
        refine J_aload_n (pc := 38) dX4_cell_38 rfl 0 rfl ?_
        refine get_53_16 (pc := 39) w_1039 dX4_cell_39 ?_
        refine J_topi (y := (M2.1 53 18)) (Eq.symm (show (upI M2 53 16 (M2.1 53 18)).1 53 16 = (M2.1 53 18) from eI_kk)) ?_
        refine J_iconst (v := (2 : Int32)) (pc := 42) dX4_cell_42 (by decide) ?_
        refine J_icmp_ne (pc := 43) (tgt := 71) dX4_cell_43 (by decide) (fun c8 => ?_) (fun c8 => ?_)
        · replace h := ifn c8 h
          cases h
          refine J_sub [] rfl ?_
          exact hJ
        · replace h := ifp c8 h
          refine J_aload_n (pc := 46) dX4_cell_46 rfl 0 rfl ?_
          refine J_iconst (v := (0 : Int32)) (pc := 47) dX4_cell_47 (by decide) ?_
          refine J_iconst (v := (4 : Int32)) (pc := 48) dX4_cell_48 (by decide) ?_
          obtain ⟨v9, M10, hc11, h⟩ := obind2_e h
          refine J_callV (g := mi_X4_digit) (ci := 4) (pc := 49) [.int (0 : Int32), .int (4 : Int32)] [] mv_X4_digit w_1297 (k_X4_digit (0 : Int32) (4 : Int32) _ hc11) rfl (by decide) rfl rfl rfl ⟨⟨Nat.le_of_ble_eq_true rfl, Nat.le_of_ble_eq_true rfl⟩, Nat.le_of_ble_eq_true rfl, Nat.le_of_ble_eq_true rfl⟩ (Nat.le_of_ble_eq_true rfl) dX4_cell_49 (Jk_v rfl rfl fun hok12 => ?_)
          refine J_if_eq (pc := 52) (tgt := 71) dX4_cell_52 (by decide) (fun c13 => ?_) (fun c13 => ?_)
          · replace h := ifp c13 h
            cases h
            refine J_sub [] rfl ?_
            exact hJ
          · replace h := ifn c13 h
            refine J_aload_n (pc := 55) dX4_cell_55 rfl 0 rfl ?_
            refine J_bipush (v := (10 : Int32)) (pc := 56) dX4_cell_56 (by decide) ?_
            refine J_aload_n (pc := 58) dX4_cell_58 rfl 0 rfl ?_
            refine get_53_16 (pc := 59) w_1039 dX4_cell_59 ?_
            refine J_imul (pc := 62) dX4_cell_62 ?_
            refine J_aload_n (pc := 63) dX4_cell_63 rfl 0 rfl ?_
            refine get_53_18 (pc := 64) w_1041 dX4_cell_64 ?_
            refine J_iadd (pc := 67) dX4_cell_67 ?_
            refine put_53_16 (pc := 68) w_1039 dX4_cell_68 ?_
            cases h
            refine J_sub [] rfl ?_
            exact hJ
      · replace h := ifp c7 h
        refine J_aload_n (pc := 28) dX4_cell_28 rfl 0 rfl ?_
        refine J_iconst (v := (0 : Int32)) (pc := 29) dX4_cell_29 (by decide) ?_
        refine J_bipush (v := (9 : Int32)) (pc := 30) dX4_cell_30 (by decide) ?_
        obtain ⟨v14, M15, hc16, h⟩ := obind2_e h
        refine J_callV (g := mi_X4_digit) (ci := 4) (pc := 32) [.int (0 : Int32), .int (9 : Int32)] [] mv_X4_digit w_1297 (k_X4_digit (0 : Int32) (9 : Int32) _ hc16) rfl (by decide) rfl rfl rfl ⟨⟨Nat.le_of_ble_eq_true rfl, Nat.le_of_ble_eq_true rfl⟩, Nat.le_of_ble_eq_true rfl, Nat.le_of_ble_eq_true rfl⟩ (Nat.le_of_ble_eq_true rfl) dX4_cell_32 (Jk_v rfl rfl fun hok17 => ?_)
        refine J_if_ne (pc := 35) (tgt := 55) dX4_cell_35 (by decide) (fun c18 => ?_) (fun c18 => ?_)
        · replace h := ifn c18 h
          refine J_aload_n (pc := 55) dX4_cell_55 rfl 0 rfl ?_
          refine J_bipush (v := (10 : Int32)) (pc := 56) dX4_cell_56 (by decide) ?_
          refine J_aload_n (pc := 58) dX4_cell_58 rfl 0 rfl ?_
          refine get_53_16 (pc := 59) w_1039 dX4_cell_59 ?_
          refine J_imul (pc := 62) dX4_cell_62 ?_
          refine J_aload_n (pc := 63) dX4_cell_63 rfl 0 rfl ?_
          refine get_53_18 (pc := 64) w_1041 dX4_cell_64 ?_
          refine J_iadd (pc := 67) dX4_cell_67 ?_
          refine put_53_16 (pc := 68) w_1039 dX4_cell_68 ?_
          cases h
          refine J_sub [] rfl ?_
          exact hJ
        · replace h := ifp c18 h
          refine J_aload_n (pc := 38) dX4_cell_38 rfl 0 rfl ?_
          refine get_53_16 (pc := 39) w_1039 dX4_cell_39 ?_
          refine J_iconst (v := (2 : Int32)) (pc := 42) dX4_cell_42 (by decide) ?_
          refine J_icmp_ne (pc := 43) (tgt := 71) dX4_cell_43 (by decide) (fun c19 => ?_) (fun c19 => ?_)
          · replace h := ifn c19 h
            cases h
            refine J_sub [] rfl ?_
            exact hJ
          · replace h := ifp c19 h
            refine J_aload_n (pc := 46) dX4_cell_46 rfl 0 rfl ?_
            refine J_iconst (v := (0 : Int32)) (pc := 47) dX4_cell_47 (by decide) ?_
            refine J_iconst (v := (4 : Int32)) (pc := 48) dX4_cell_48 (by decide) ?_
            obtain ⟨v20, M21, hc22, h⟩ := obind2_e h
            refine J_callV (g := mi_X4_digit) (ci := 4) (pc := 49) [.int (0 : Int32), .int (4 : Int32)] [] mv_X4_digit w_1297 (k_X4_digit (0 : Int32) (4 : Int32) _ hc22) rfl (by decide) rfl rfl rfl ⟨⟨Nat.le_of_ble_eq_true rfl, Nat.le_of_ble_eq_true rfl⟩, Nat.le_of_ble_eq_true rfl, Nat.le_of_ble_eq_true rfl⟩ (Nat.le_of_ble_eq_true rfl) dX4_cell_49 (Jk_v rfl rfl fun hok23 => ?_)
            refine J_if_eq (pc := 52) (tgt := 71) dX4_cell_52 (by decide) (fun c24 => ?_) (fun c24 => ?_)
            · replace h := ifp c24 h
              cases h
              refine J_sub [] rfl ?_
              exact hJ
            · replace h := ifn c24 h
              refine J_aload_n (pc := 55) dX4_cell_55 rfl 0 rfl ?_
              refine J_bipush (v := (10 : Int32)) (pc := 56) dX4_cell_56 (by decide) ?_
              refine J_aload_n (pc := 58) dX4_cell_58 rfl 0 rfl ?_
              refine get_53_16 (pc := 59) w_1039 dX4_cell_59 ?_
              refine J_imul (pc := 62) dX4_cell_62 ?_
              refine J_aload_n (pc := 63) dX4_cell_63 rfl 0 rfl ?_
              refine get_53_18 (pc := 64) w_1041 dX4_cell_64 ?_
              refine J_iadd (pc := 67) dX4_cell_67 ?_
              refine put_53_16 (pc := 68) w_1039 dX4_cell_68 ?_
              cases h
              refine J_sub [] rfl ?_
              exact hJ
  · replace h := ifp c5 h
    refine J_iconst (v := (0 : Int32)) (pc := 10) dX4_cell_10 (by decide) ?_
    cases h
    exact J_zreturn dX4_cell_11 rfl (Or.inl rfl) rfl rfl rfl rfl

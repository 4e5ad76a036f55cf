/-! ===== walks of the methods, 12 ===== -/
set_option maxHeartbeats 4000000 in
set_option maxRecDepth 100000 in
theorem k_X4_wrongCar {E : En} (a1 : Int32) (a2 : Int32) (a3 : Int32) (M : Wd) {r : Int32} (h : F_X4_wrongCar a1 a2 a3 M = some r) : Con E mi_X4_wrongCar [.ref 53, .int a1, .int a2, .int a3] M (.inl (some (.int r))) M := by
  unfold F_X4_wrongCar at h
  refine Con.of (by decide) rfl (Nat.le_of_ble_eq_true rfl) (fun κ => ?_)
  show J κ E mi_X4_wrongCar _ 0 0 [(0, .ref 53), (1, .int a1), (2, .int a2), (3, .int a3)] M 0 []
  refine J_iload_n (pc := 0) dX4_wrongCar_0 rfl 1 rfl ?_
  refine J_i2l (pc := 1) dX4_wrongCar_1 ?_
  refine J_lconst (v := (0 : Int64)) (pc := 2) dX4_wrongCar_2 (by decide) ?_
  refine J_ldc2 (pc := 3) w_1103 dX4_wrongCar_3 ?_
  refine J_callS (g := mi_X4_in) (pc := 6) [.long a1.toInt64, .long (0 : Int64), .long (9 : Int64)] [] ms_X4_in w_1104 (k_X4_in a1.toInt64 (0 : Int64) (9 : Int64) _) rfl rfl ⟨⟨Nat.le_of_ble_eq_true rfl, Nat.le_of_ble_eq_true rfl⟩, Nat.le_of_ble_eq_true rfl, Nat.le_of_ble_eq_true rfl⟩ (Nat.le_of_ble_eq_true rfl) dX4_wrongCar_6 (Jk_v rfl rfl fun hok1 => ?_)
  refine J_if_ne (pc := 9) (tgt := 14) dX4_wrongCar_9 (by decide) (fun c2 => ?_) (fun c2 => ?_)
  · replace h := ifn c2 h
    refine J_iload_n (pc := 14) dX4_wrongCar_14 rfl 3 rfl ?_
    refine J_LS [(0, .ref 53), (1, .int a1), (2, .int a2), (3, .int a3)] [.int a3] rfl rfl ?_
    refine J_i2l (pc := 15) dX4_wrongCar_15 ?_
    refine J_ldc2 (pc := 16) w_1107 dX4_wrongCar_16 ?_
    refine J_ldc2 (pc := 19) w_1108 dX4_wrongCar_19 ?_
    refine J_callS (g := mi_X4_in) (pc := 22) [.long a3.toInt64, .long (2 : Int64), .long (3 : Int64)] [] ms_X4_in w_1104 (k_X4_in a3.toInt64 (2 : Int64) (3 : Int64) _) rfl rfl ⟨⟨Nat.le_of_ble_eq_true rfl, Nat.le_of_ble_eq_true rfl⟩, Nat.le_of_ble_eq_true rfl, Nat.le_of_ble_eq_true rfl⟩ (Nat.le_of_ble_eq_true rfl) dX4_wrongCar_22 (Jk_v rfl rfl fun hok3 => ?_)
    refine J_if_eq (pc := 25) (tgt := 41) dX4_wrongCar_25 (by decide) (fun c4 => ?_) (fun c4 => ?_)
    · replace h := ifp c4 h
      refine J_iconst (v := (2 : Int32)) (pc := 41) dX4_wrongCar_41 (by decide) ?_
      cases h
      exact J_ireturn dX4_wrongCar_42 rfl rfl rfl rfl rfl
    · replace h := ifn c4 h
      refine J_iload_n (pc := 28) dX4_wrongCar_28 rfl 2 rfl ?_
      refine J_i2l (pc := 29) dX4_wrongCar_29 ?_
      refine J_lconst (v := (0 : Int64)) (pc := 30) dX4_wrongCar_30 (by decide) ?_
      refine J_iconst (v := (5 : Int32)) (pc := 31) dX4_wrongCar_31 (by decide) ?_
      refine J_iload_n (pc := 32) dX4_wrongCar_32 rfl 3 rfl ?_
      refine J_LS [(0, .ref 53), (1, .int a1), (2, .int a2), (3, .int a3)] [.int a3, .int (5 : Int32), .long (0 : Int64), .long a2.toInt64] rfl rfl ?_
      refine J_isub (pc := 33) dX4_wrongCar_33 ?_
      refine J_i2l (pc := 34) dX4_wrongCar_34 ?_
      refine J_callS (g := mi_X4_in) (pc := 35) [.long a2.toInt64, .long (0 : Int64), .long ((5 : Int32) - a3).toInt64] [] ms_X4_in w_1104 (k_X4_in a2.toInt64 (0 : Int64) ((5 : Int32) - a3).toInt64 _) rfl rfl ⟨⟨Nat.le_of_ble_eq_true rfl, Nat.le_of_ble_eq_true rfl⟩, Nat.le_of_ble_eq_true rfl, Nat.le_of_ble_eq_true rfl⟩ (Nat.le_of_ble_eq_true rfl) dX4_wrongCar_35 (Jk_v rfl rfl fun hok5 => ?_)
      refine J_if_ne (pc := 38) (tgt := 43) dX4_wrongCar_38 (by decide) (fun c6 => ?_) (fun c6 => ?_)
      · replace h := ifn c6 h
        refine J_aload_n (pc := 43) dX4_wrongCar_43 rfl 0 rfl ?_
        refine get_53_3 (pc := 44) w_1026 dX4_wrongCar_44 ?_
        refine J_iconst (v := (0 : Int32)) (pc := 47) dX4_wrongCar_47 (by decide) ?_
        refine J_iald (c := 55) (N := 82) (pc := 48) ja_55 (Nat.le_of_ble_eq_true rfl) (vpc rfl) dX4_wrongCar_48 ?_
        refine J_topi (x := M.1 55 (Int32.toNatClampNeg 0)) (y := (M.1 55 0)) (Eq.symm (a := M.1 55 (Int32.toNatClampNeg 0)) (show M.1 55 0 = (M.1 55 0) from rfl)) ?_
        refine J_bipush (v := (6 : Int32)) (pc := 49) dX4_wrongCar_49 (by decide) ?_
        refine J_icmp_eq (pc := 51) (tgt := 82) dX4_wrongCar_51 (by decide) (fun c7 => ?_) (fun c7 => ?_)
        · replace h := ifp c7 h
          refine J_iconst (v := (3 : Int32)) (pc := 82) dX4_wrongCar_82 (by decide) ?_
          refine J_goto (pc := 83) (tgt := 87) dX4_wrongCar_83 (by decide) ?_
          cases h
          exact J_ireturn dX4_wrongCar_87 rfl rfl rfl rfl rfl
        · replace h := ifn c7 h
          refine J_iload_n (pc := 54) dX4_wrongCar_54 rfl 1 rfl ?_
          refine J_LS [(0, .ref 53), (1, .int a1), (2, .int a2), (3, .int a3)] [.int a1] rfl rfl ?_
          refine J_iload_n (pc := 55) dX4_wrongCar_55 rfl 2 rfl ?_
          refine J_iload_n (pc := 56) dX4_wrongCar_56 rfl 3 rfl ?_
          refine J_LS [(0, .ref 53), (1, .int a1), (2, .int a2), (3, .int a3)] [.int a3, .int a2, .int a1] rfl rfl ?_
          obtain ⟨v8, hc9, h⟩ := obind_e h
          refine J_callS (g := mi_X4_cells) (pc := 57) [.int a1, .int a2, .int a3] [] ms_X4_cells w_1109 (k_X4_cells a1 a2 a3 _ hc9) rfl rfl ⟨⟨Nat.le_of_ble_eq_true rfl, Nat.le_of_ble_eq_true rfl⟩, Nat.le_of_ble_eq_true rfl, Nat.le_of_ble_eq_true rfl⟩ (Nat.le_of_ble_eq_true rfl) dX4_wrongCar_57 (Jk_v rfl rfl fun hok10 => ?_)
          refine J_aload_n (pc := 60) dX4_wrongCar_60 rfl 0 rfl ?_
          obtain ⟨v11, hc12, h⟩ := obind_e h
          refine J_callV (g := mi_X4_occupied) (ci := 4) (pc := 61) [] [.int v8] mv_X4_occupied w_1112 (k_X4_occupied _ hc12) rfl (by decide) rfl rfl rfl ⟨⟨Nat.le_of_ble_eq_true rfl, Nat.le_of_ble_eq_true rfl⟩, Nat.le_of_ble_eq_true rfl, Nat.le_of_ble_eq_true rfl⟩ (Nat.le_of_ble_eq_true rfl) dX4_wrongCar_61 (Jk_v rfl rfl fun hok13 => ?_)
          refine J_iand (pc := 64) dX4_wrongCar_64 ?_
          refine J_if_ne (pc := 65) (tgt := 82) dX4_wrongCar_65 (by decide) (fun c14 => ?_) (fun c14 => ?_)
          · replace h := ifn c14 h
            refine J_iconst (v := (3 : Int32)) (pc := 82) dX4_wrongCar_82 (by decide) ?_
            refine J_goto (pc := 83) (tgt := 87) dX4_wrongCar_83 (by decide) ?_
            cases h
            exact J_ireturn dX4_wrongCar_87 rfl rfl rfl rfl rfl
          · replace h := ifp c14 h
            refine J_aload_n (pc := 68) dX4_wrongCar_68 rfl 0 rfl ?_
            refine J_LS [(0, .ref 53), (1, .int a1), (2, .int a2), (3, .int a3)] [.ref 53] rfl rfl ?_
            refine get_53_3 (pc := 69) w_1026 dX4_wrongCar_69 ?_
            refine J_iconst (v := (0 : Int32)) (pc := 72) dX4_wrongCar_72 (by decide) ?_
            refine J_iald (c := 55) (N := 82) (pc := 73) ja_55 (Nat.le_of_ble_eq_true rfl) (vpc rfl) dX4_wrongCar_73 ?_
            refine J_topi (x := M.1 55 (Int32.toNatClampNeg 0)) (y := (M.1 55 0)) (Eq.symm (a := M.1 55 (Int32.toNatClampNeg 0)) (show M.1 55 0 = (M.1 55 0) from rfl)) ?_
            refine J_if_ne (pc := 74) (tgt := 86) dX4_wrongCar_74 (by decide) (fun c15 => ?_) (fun c15 => ?_)
            · replace h := ifn c15 h
              refine J_iconst (v := (0 : Int32)) (pc := 86) dX4_wrongCar_86 (by decide) ?_
              cases h
              exact J_ireturn dX4_wrongCar_87 rfl rfl rfl rfl rfl
            · replace h := ifp c15 h
              refine J_iload_n (pc := 77) dX4_wrongCar_77 rfl 1 rfl ?_
              refine J_iconst (v := (5 : Int32)) (pc := 78) dX4_wrongCar_78 (by decide) ?_
              refine J_icmp_lt (pc := 79) (tgt := 86) dX4_wrongCar_79 (by decide) (fun c16 => ?_) (fun c16 => ?_)
              · replace h := ifp c16 h
                refine J_iconst (v := (0 : Int32)) (pc := 86) dX4_wrongCar_86 (by decide) ?_
                cases h
                exact J_ireturn dX4_wrongCar_87 rfl rfl rfl rfl rfl
              · replace h := ifn c16 h
                refine J_iconst (v := (3 : Int32)) (pc := 82) dX4_wrongCar_82 (by decide) ?_
                refine J_goto (pc := 83) (tgt := 87) dX4_wrongCar_83 (by decide) ?_
                cases h
                exact J_ireturn dX4_wrongCar_87 rfl rfl rfl rfl rfl
      · replace h := ifp c6 h
        refine J_iconst (v := (2 : Int32)) (pc := 41) dX4_wrongCar_41 (by decide) ?_
        cases h
        exact J_ireturn dX4_wrongCar_42 rfl rfl rfl rfl rfl
  · replace h := ifp c2 h
    refine J_iconst (v := (1 : Int32)) (pc := 12) dX4_wrongCar_12 (by decide) ?_
    cases h
    exact J_ireturn dX4_wrongCar_13 rfl rfl rfl rfl rfl
set_option maxHeartbeats 4000000 in
set_option maxRecDepth 100000 in
theorem k_X4_addOn {E : En} (a1 : Int32) (a2 : Int32) (a3 : Int32) (M : Wd) {r : Int32} {M' : Wd} (h : F_X4_addOn a1 a2 a3 M = some (r, M')) : Con E mi_X4_addOn [.ref 53, .int a1, .int a2, .int a3] M (.inl (some (.int r))) M' := by
  unfold F_X4_addOn at h
  refine Con.of (by decide) rfl (Nat.le_of_ble_eq_true rfl) (fun κ => ?_)
  show J κ E mi_X4_addOn _ 0 0 [(0, .ref 53), (1, .int a1), (2, .int a2), (3, .int a3)] M 0 []
  refine J_aload_n (pc := 0) dX4_addOn_0 rfl 0 rfl ?_
  refine get_53_3 (pc := 1) w_1026 dX4_addOn_1 ?_
  refine J_iconst (v := (0 : Int32)) (pc := 4) dX4_addOn_4 (by decide) ?_
  refine J_iald (c := 55) (N := 82) (pc := 5) ja_55 (Nat.le_of_ble_eq_true rfl) (vpc rfl) dX4_addOn_5 ?_
  refine J_topi (x := M.1 55 (Int32.toNatClampNeg 0)) (y := (M.1 55 0)) (Eq.symm (a := M.1 55 (Int32.toNatClampNeg 0)) (show M.1 55 0 = (M.1 55 0) from rfl)) ?_
  obtain ⟨v1, e2, h⟩ := bnd_e h
  refine J_topi e2 ?_
  refine J_istore (pc := 6) dX4_addOn_6 (Nat.le_of_ble_eq_true rfl) [1, 2, 3, 4, 0] rfl ?_
  refine J_LS [(0, .ref 53), (1, .int a1), (2, .int a2), (3, .int a3), (4, .int v1)] [] rfl rfl ?_
  refine J_aload_n (pc := 8) dX4_addOn_8 rfl 0 rfl ?_
  refine get_53_3 (pc := 9) w_1026 dX4_addOn_9 ?_
  refine J_iconst (v := (1 : Int32)) (pc := 12) dX4_addOn_12 (by decide) ?_
  refine J_iload (pc := 13) dX4_addOn_13 4 rfl ?_
  refine J_LS [(0, .ref 53), (1, .int a1), (2, .int a2), (3, .int a3), (4, .int v1)] [.int v1, .int (1 : Int32), .ref 55] rfl rfl ?_
  refine J_iadd (pc := 15) dX4_addOn_15 ?_
  refine J_iload_n (pc := 16) dX4_addOn_16 rfl 1 rfl ?_
  obtain ⟨hk3, h⟩ := inb_e h
  refine J_iast (c := 55) (N := 82) (pc := 17) (fun _ => ja_55) (Nat.le_of_ble_eq_true rfl) hk3 dX4_addOn_17 ?_
  refine J_aload_n (pc := 18) dX4_addOn_18 rfl 0 rfl ?_
  refine J_LS [(0, .ref 53), (1, .int a1), (2, .int a2), (3, .int a3), (4, .int v1)] [.ref 53] rfl rfl ?_
  refine get_53_3 (pc := 19) w_1026 dX4_addOn_19 ?_
  refine J_bipush (v := (7 : Int32)) (pc := 22) dX4_addOn_22 (by decide) ?_
  refine J_iload (pc := 24) dX4_addOn_24 4 rfl ?_
  refine J_iadd (pc := 26) dX4_addOn_26 ?_
  refine J_iload_n (pc := 27) dX4_addOn_27 rfl 2 rfl ?_
  refine J_LS [(0, .ref 53), (1, .int a1), (2, .int a2), (3, .int a3), (4, .int v1)] [.int a2, .int ((7 : Int32) + v1), .ref 55] rfl rfl ?_
  obtain ⟨hk4, h⟩ := inb_e h
  refine J_iast (c := 55) (N := 82) (pc := 28) (fun _ => ja_55) (Nat.le_of_ble_eq_true rfl) hk4 dX4_addOn_28 ?_
  refine J_aload_n (pc := 29) dX4_addOn_29 rfl 0 rfl ?_
  refine get_53_3 (pc := 30) w_1026 dX4_addOn_30 ?_
  refine J_bipush (v := (13 : Int32)) (pc := 33) dX4_addOn_33 (by decide) ?_
  refine J_iload (pc := 35) dX4_addOn_35 4 rfl ?_
  refine J_LS [(0, .ref 53), (1, .int a1), (2, .int a2), (3, .int a3), (4, .int v1)] [.int v1, .int (13 : Int32), .ref 55] rfl rfl ?_
  refine J_iadd (pc := 37) dX4_addOn_37 ?_
  refine J_iload_n (pc := 38) dX4_addOn_38 rfl 3 rfl ?_
  obtain ⟨hk5, h⟩ := inb_e h
  refine J_iast (c := 55) (N := 82) (pc := 39) (fun _ => ja_55) (Nat.le_of_ble_eq_true rfl) hk5 dX4_addOn_39 ?_
  refine J_aload_n (pc := 40) dX4_addOn_40 rfl 0 rfl ?_
  refine J_LS [(0, .ref 53), (1, .int a1), (2, .int a2), (3, .int a3), (4, .int v1)] [.ref 53] rfl rfl ?_
  refine get_53_3 (pc := 41) w_1026 dX4_addOn_41 ?_
  refine J_iconst (v := (0 : Int32)) (pc := 44) dX4_addOn_44 (by decide) ?_
  refine J_dup2 (pc := 45) dX4_addOn_45 rfl rfl ?_
  refine J_iald (c := 55) (N := 82) (pc := 46) ja_55 (Nat.le_of_ble_eq_true rfl) (vpc rfl) dX4_addOn_46 ?_
  refine J_topi (x := (upI (upI (upI M 55 ((1 : Int32) + v1).toNatClampNeg a1) 55 ((7 : Int32) + v1).toNatClampNeg a2) 55 ((13 : Int32) + v1).toNatClampNeg a3).1 55 (Int32.toNatClampNeg 0)) (y := ((upI (upI (upI M 55 ((1 : Int32) + v1).toNatClampNeg a1) 55 ((7 : Int32) + v1).toNatClampNeg a2) 55 ((13 : Int32) + v1).toNatClampNeg a3).1 55 0)) (Eq.symm (a := (upI (upI (upI M 55 ((1 : Int32) + v1).toNatClampNeg a1) 55 ((7 : Int32) + v1).toNatClampNeg a2) 55 ((13 : Int32) + v1).toNatClampNeg a3).1 55 (Int32.toNatClampNeg 0)) (show (upI (upI (upI M 55 ((1 : Int32) + v1).toNatClampNeg a1) 55 ((7 : Int32) + v1).toNatClampNeg a2) 55 ((13 : Int32) + v1).toNatClampNeg a3).1 55 0 = ((upI (upI (upI M 55 ((1 : Int32) + v1).toNatClampNeg a1) 55 ((7 : Int32) + v1).toNatClampNeg a2) 55 ((13 : Int32) + v1).toNatClampNeg a3).1 55 0) from (congrFun (rI_cg (rI_cg (rI_cg rfl))) _))) ?_
  refine J_iconst (v := (1 : Int32)) (pc := 47) dX4_addOn_47 (by decide) ?_
  refine J_iadd (pc := 48) dX4_addOn_48 ?_
  refine J_iast (c := 55) (N := 82) (pc := 49) (fun _ => ja_55) (Nat.le_of_ble_eq_true rfl) (vpc rfl) dX4_addOn_49 ?_
  refine J_M (upI (upI (upI (upI M 55 ((1 : Int32) + v1).toNatClampNeg a1) 55 ((7 : Int32) + v1).toNatClampNeg a2) 55 ((13 : Int32) + v1).toNatClampNeg a3) 55 0 (((upI (upI (upI M 55 ((1 : Int32) + v1).toNatClampNeg a1) 55 ((7 : Int32) + v1).toNatClampNeg a2) 55 ((13 : Int32) + v1).toNatClampNeg a3).1 55 0) + (1 : Int32))) rfl ?_
  refine J_aload_n (pc := 50) dX4_addOn_50 rfl 0 rfl ?_
  refine get_53_3 (pc := 51) w_1026 dX4_addOn_51 ?_
  refine J_bipush (v := (20 : Int32)) (pc := 54) dX4_addOn_54 (by decide) ?_
  refine J_iconst (v := (0 : Int32)) (pc := 56) dX4_addOn_56 (by decide) ?_
  refine J_iast (c := 55) (N := 82) (pc := 57) (fun _ => ja_55) (Nat.le_of_ble_eq_true rfl) (vpc rfl) dX4_addOn_57 ?_
  refine J_M (upI (upI (upI (upI (upI M 55 ((1 : Int32) + v1).toNatClampNeg a1) 55 ((7 : Int32) + v1).toNatClampNeg a2) 55 ((13 : Int32) + v1).toNatClampNeg a3) 55 0 (((upI (upI (upI M 55 ((1 : Int32) + v1).toNatClampNeg a1) 55 ((7 : Int32) + v1).toNatClampNeg a2) 55 ((13 : Int32) + v1).toNatClampNeg a3).1 55 0) + (1 : Int32))) 55 20 (0 : Int32)) rfl ?_
  refine J_iload (pc := 58) dX4_addOn_58 4 rfl ?_
  refine J_LS [(0, .ref 53), (1, .int a1), (2, .int a2), (3, .int a3), (4, .int v1)] [.int v1] rfl rfl ?_
  cases h
  exact J_ireturn dX4_addOn_60 rfl rfl rfl rfl rfl
set_option maxHeartbeats 4000000 in
set_option maxRecDepth 100000 in
theorem k_X4_hasWall {E : En} (a1 : Int32) (M : Wd) : Con E mi_X4_hasWall [.ref 53, .int a1] M (.inl (some (.int (F_X4_hasWall a1 M)))) M := by
  obtain ⟨r, h⟩ : ∃ r, F_X4_hasWall a1 M = r := ⟨_, rfl⟩
  rw [h]
  unfold F_X4_hasWall at h
  refine Con.of (by decide) rfl (Nat.le_of_ble_eq_true rfl) (fun κ => ?_)
  show J κ E mi_X4_hasWall _ 0 0 [(0, .ref 53), (1, .int a1)] M 0 []
  refine J_aload_n (pc := 0) dX4_hasWall_0 rfl 0 rfl ?_
  refine get_53_3 (pc := 1) w_1026 dX4_hasWall_1 ?_
  refine J_bipush (v := (19 : Int32)) (pc := 4) dX4_hasWall_4 (by decide) ?_
  refine J_iald (c := 55) (N := 82) (pc := 6) ja_55 (Nat.le_of_ble_eq_true rfl) (vpc rfl) dX4_hasWall_6 ?_
  refine J_topi (x := M.1 55 (Int32.toNatClampNeg 19)) (y := (M.1 55 19)) (Eq.symm (a := M.1 55 (Int32.toNatClampNeg 19)) (show M.1 55 19 = (M.1 55 19) from rfl)) ?_
  refine J_iload_n (pc := 7) dX4_hasWall_7 rfl 1 rfl ?_
  refine J_LS [(0, .ref 53), (1, .int a1)] [.int a1, .int (M.1 55 19)] rfl rfl ?_
  refine J_ishr (pc := 8) dX4_hasWall_8 ?_
  refine J_iconst (v := (1 : Int32)) (pc := 9) dX4_hasWall_9 (by decide) ?_
  refine J_iand (pc := 10) dX4_hasWall_10 ?_
  refine J_iconst (v := (1 : Int32)) (pc := 11) dX4_hasWall_11 (by decide) ?_
  refine J_icmp_ne (pc := 12) (tgt := 19) dX4_hasWall_12 (by decide) (fun c1 => ?_) (fun c1 => ?_)
  · replace h := ifn c1 h
    refine J_iconst (v := (0 : Int32)) (pc := 19) dX4_hasWall_19 (by decide) ?_
    subst h
    exact J_zreturn dX4_hasWall_20 rfl (Or.inl rfl) rfl rfl rfl rfl
  · replace h := ifp c1 h
    refine J_iconst (v := (1 : Int32)) (pc := 15) dX4_hasWall_15 (by decide) ?_
    refine J_goto (pc := 16) (tgt := 20) dX4_hasWall_16 (by decide) ?_
    subst h
    exact J_zreturn dX4_hasWall_20 rfl (Or.inr rfl) rfl rfl rfl rfl
set_option maxHeartbeats 4000000 in
set_option maxRecDepth 100000 in
theorem k_X4_canTurn {E : En} (a1 : Int32) (M : Wd) {r : Int32} (h : F_X4_canTurn a1 M = some r) : Con E mi_X4_canTurn [.ref 53, .int a1] M (.inl (some (.int r))) M := by
  unfold F_X4_canTurn at h
  refine Con.of (by decide) rfl (Nat.le_of_ble_eq_true rfl) (fun κ => ?_)
  show J κ E mi_X4_canTurn _ 0 0 [(0, .ref 53), (1, .int a1)] M 0 []
  refine J_aload_n (pc := 0) dX4_canTurn_0 rfl 0 rfl ?_
  refine J_iload_n (pc := 1) dX4_canTurn_1 rfl 1 rfl ?_
  refine J_LS [(0, .ref 53), (1, .int a1)] [.int a1, .ref 53] rfl rfl ?_
  refine J_callV (g := mi_X4_hasWall) (ci := 4) (pc := 2) [.int a1] [] mv_X4_hasWall w_1151 (k_X4_hasWall a1 _) rfl (by decide) rfl rfl rfl ⟨⟨Nat.le_of_ble_eq_true rfl, Nat.le_of_ble_eq_true rfl⟩, Nat.le_of_ble_eq_true rfl, Nat.le_of_ble_eq_true rfl⟩ (Nat.le_of_ble_eq_true rfl) dX4_canTurn_2 (Jk_v rfl rfl fun hok1 => ?_)
  refine J_if_ne (pc := 5) (tgt := 33) dX4_canTurn_5 (by decide) (fun c2 => ?_) (fun c2 => ?_)
  · replace h := ifn c2 h
    refine J_iconst (v := (1 : Int32)) (pc := 33) dX4_canTurn_33 (by decide) ?_
    refine J_goto (pc := 34) (tgt := 38) dX4_canTurn_34 (by decide) ?_
    cases h
    exact J_zreturn dX4_canTurn_38 rfl (Or.inr rfl) rfl rfl rfl rfl
  · replace h := ifp c2 h
    refine J_aload_n (pc := 8) dX4_canTurn_8 rfl 0 rfl ?_
    obtain ⟨v3, hc4, h⟩ := obind_e h
    refine J_callV (g := mi_X4_occupied) (ci := 4) (pc := 9) [] [] mv_X4_occupied w_1112 (k_X4_occupied _ hc4) rfl (by decide) rfl rfl rfl ⟨⟨Nat.le_of_ble_eq_true rfl, Nat.le_of_ble_eq_true rfl⟩, Nat.le_of_ble_eq_true rfl, Nat.le_of_ble_eq_true rfl⟩ (Nat.le_of_ble_eq_true rfl) dX4_canTurn_9 (Jk_v rfl rfl fun hok5 => ?_)
    refine J_iload_n (pc := 12) dX4_canTurn_12 rfl 1 rfl ?_
    refine J_LS [(0, .ref 53), (1, .int a1)] [.int a1, .int v3] rfl rfl ?_
    refine J_ishr (pc := 13) dX4_canTurn_13 ?_
    refine J_iconst (v := (1 : Int32)) (pc := 14) dX4_canTurn_14 (by decide) ?_
    refine J_iand (pc := 15) dX4_canTurn_15 ?_
    refine J_if_ne (pc := 16) (tgt := 37) dX4_canTurn_16 (by decide) (fun c6 => ?_) (fun c6 => ?_)
    · replace h := ifn c6 h
      refine J_iconst (v := (0 : Int32)) (pc := 37) dX4_canTurn_37 (by decide) ?_
      cases h
      exact J_zreturn dX4_canTurn_38 rfl (Or.inl rfl) rfl rfl rfl rfl
    · replace h := ifp c6 h
      refine J_aload_n (pc := 19) dX4_canTurn_19 rfl 0 rfl ?_
      refine get_53_3 (pc := 20) w_1026 dX4_canTurn_20 ?_
      refine J_bipush (v := (19 : Int32)) (pc := 23) dX4_canTurn_23 (by decide) ?_
      refine J_iald (c := 55) (N := 82) (pc := 25) ja_55 (Nat.le_of_ble_eq_true rfl) (vpc rfl) dX4_canTurn_25 ?_
      refine J_topi (x := M.1 55 (Int32.toNatClampNeg 19)) (y := (M.1 55 19)) (Eq.symm (a := M.1 55 (Int32.toNatClampNeg 19)) (show M.1 55 19 = (M.1 55 19) from rfl)) ?_
      obtain ⟨v7, hc8, h⟩ := obind_e h
      refine J_callS (g := mi_X4_bits) (pc := 26) [.int (M.1 55 19)] [] ms_X4_bits w_1155 (k_X4_bits (M.1 55 19) _ hc8) rfl rfl ⟨⟨Nat.le_of_ble_eq_true rfl, Nat.le_of_ble_eq_true rfl⟩, Nat.le_of_ble_eq_true rfl, Nat.le_of_ble_eq_true rfl⟩ (Nat.le_of_ble_eq_true rfl) dX4_canTurn_26 (Jk_v rfl rfl fun hok9 => ?_)
      refine J_iconst (v := (4 : Int32)) (pc := 29) dX4_canTurn_29 (by decide) ?_
      refine J_icmp_ge (pc := 30) (tgt := 37) dX4_canTurn_30 (by decide) (fun c10 => ?_) (fun c10 => ?_)
      · replace h := ifp c10 h
        refine J_iconst (v := (0 : Int32)) (pc := 37) dX4_canTurn_37 (by decide) ?_
        cases h
        exact J_zreturn dX4_canTurn_38 rfl (Or.inl rfl) rfl rfl rfl rfl
      · replace h := ifn c10 h
        refine J_iconst (v := (1 : Int32)) (pc := 33) dX4_canTurn_33 (by decide) ?_
        refine J_goto (pc := 34) (tgt := 38) dX4_canTurn_34 (by decide) ?_
        cases h
        exact J_zreturn dX4_canTurn_38 rfl (Or.inr rfl) rfl rfl rfl rfl
set_option maxHeartbeats 4000000 in
set_option maxRecDepth 100000 in
theorem k_X4_turnOn {E : En} (a1 : Int32) (M : Wd) {r : Int32} {M' : Wd} (h : F_X4_turnOn a1 M = some (r, M')) : Con E mi_X4_turnOn [.ref 53, .int a1] M (.inl (some (.int r))) M' := by
  unfold F_X4_turnOn at h
  refine Con.of (by decide) rfl (Nat.le_of_ble_eq_true rfl) (fun κ => ?_)
  show J κ E mi_X4_turnOn _ 0 0 [(0, .ref 53), (1, .int a1)] M 0 []
  refine J_aload_n (pc := 0) dX4_turnOn_0 rfl 0 rfl ?_
  refine get_53_3 (pc := 1) w_1026 dX4_turnOn_1 ?_
  refine J_bipush (v := (19 : Int32)) (pc := 4) dX4_turnOn_4 (by decide) ?_
  refine J_dup2 (pc := 6) dX4_turnOn_6 rfl rfl ?_
  refine J_iald (c := 55) (N := 82) (pc := 7) ja_55 (Nat.le_of_ble_eq_true rfl) (vpc rfl) dX4_turnOn_7 ?_
  refine J_topi (x := M.1 55 (Int32.toNatClampNeg 19)) (y := (M.1 55 19)) (Eq.symm (a := M.1 55 (Int32.toNatClampNeg 19)) (show M.1 55 19 = (M.1 55 19) from rfl)) ?_
  refine J_iconst (v := (1 : Int32)) (pc := 8) dX4_turnOn_8 (by decide) ?_
  refine J_iload_n (pc := 9) dX4_turnOn_9 rfl 1 rfl ?_
  refine J_LS [(0, .ref 53), (1, .int a1)] [.int a1, .int (1 : Int32), .int (M.1 55 19), .int (19 : Int32), .ref 55] rfl rfl ?_
  refine J_ishl (pc := 10) dX4_turnOn_10 ?_
  refine J_ixor (pc := 11) dX4_turnOn_11 ?_
  refine J_iast (c := 55) (N := 82) (pc := 12) (fun _ => ja_55) (Nat.le_of_ble_eq_true rfl) (vpc rfl) dX4_turnOn_12 ?_
  refine J_M (upI M 55 19 ((M.1 55 19) ^^^ ((1 : Int32) <<< (a1 &&& 31)))) rfl ?_
  refine J_aload_n (pc := 13) dX4_turnOn_13 rfl 0 rfl ?_
  refine get_53_3 (pc := 14) w_1026 dX4_turnOn_14 ?_
  refine J_bipush (v := (20 : Int32)) (pc := 17) dX4_turnOn_17 (by decide) ?_
  refine J_iconst (v := (0 : Int32)) (pc := 19) dX4_turnOn_19 (by decide) ?_
  refine J_iast (c := 55) (N := 82) (pc := 20) (fun _ => ja_55) (Nat.le_of_ble_eq_true rfl) (vpc rfl) dX4_turnOn_20 ?_
  refine J_M (upI (upI M 55 19 ((M.1 55 19) ^^^ ((1 : Int32) <<< (a1 &&& 31)))) 55 20 (0 : Int32)) rfl ?_
  refine J_aload_n (pc := 21) dX4_turnOn_21 rfl 0 rfl ?_
  refine J_LS [(0, .ref 53), (1, .int a1)] [.ref 53] rfl rfl ?_
  refine J_iload_n (pc := 22) dX4_turnOn_22 rfl 1 rfl ?_
  refine J_callV (g := mi_X4_hasWall) (ci := 4) (pc := 23) [.int a1] [] mv_X4_hasWall w_1151 (k_X4_hasWall a1 _) rfl (by decide) rfl rfl rfl ⟨⟨Nat.le_of_ble_eq_true rfl, Nat.le_of_ble_eq_true rfl⟩, Nat.le_of_ble_eq_true rfl, Nat.le_of_ble_eq_true rfl⟩ (Nat.le_of_ble_eq_true rfl) dX4_turnOn_23 (Jk_v rfl rfl fun hok1 => ?_)
  cases h
  exact J_zreturn dX4_turnOn_26 rfl (okB_b hok1) rfl rfl rfl rfl
set_option maxHeartbeats 4000000 in
set_option maxRecDepth 100000 in
theorem k_X4_slideOn {E : En} (a1 : Int32) (a2 : Int32) (M : Wd) {r : Int32} {M' : Wd} (h : F_X4_slideOn a1 a2 M = some (r, M')) : Con E mi_X4_slideOn [.ref 53, .int a1, .int a2] M (.inl (some (.int r))) M' := by
  unfold F_X4_slideOn at h
  refine Con.of (by decide) rfl (Nat.le_of_ble_eq_true rfl) (fun κ => ?_)
  show J κ E mi_X4_slideOn _ 0 0 [(0, .ref 53), (1, .int a1), (2, .int a2)] M 0 []
  refine J_aload_n (pc := 0) dX4_slideOn_0 rfl 0 rfl ?_
  refine get_53_3 (pc := 1) w_1026 dX4_slideOn_1 ?_
  refine J_bipush (v := (21 : Int32)) (pc := 4) dX4_slideOn_4 (by decide) ?_
  refine J_aload_n (pc := 6) dX4_slideOn_6 rfl 0 rfl ?_
  refine J_LS [(0, .ref 53), (1, .int a1), (2, .int a2)] [.ref 53, .int (21 : Int32), .ref 55] rfl rfl ?_
  refine get_53_3 (pc := 7) w_1026 dX4_slideOn_7 ?_
  refine J_bipush (v := (20 : Int32)) (pc := 10) dX4_slideOn_10 (by decide) ?_
  refine J_iald (c := 55) (N := 82) (pc := 12) ja_55 (Nat.le_of_ble_eq_true rfl) (vpc rfl) dX4_slideOn_12 ?_
  refine J_topi (x := M.1 55 (Int32.toNatClampNeg 20)) (y := (M.1 55 20)) (Eq.symm (a := M.1 55 (Int32.toNatClampNeg 20)) (show M.1 55 20 = (M.1 55 20) from rfl)) ?_
  refine J_iadd (pc := 13) dX4_slideOn_13 ?_
  refine J_bipush (v := (8 : Int32)) (pc := 14) dX4_slideOn_14 (by decide) ?_
  refine J_iload_n (pc := 16) dX4_slideOn_16 rfl 1 rfl ?_
  refine J_imul (pc := 17) dX4_slideOn_17 ?_
  refine J_iload_n (pc := 18) dX4_slideOn_18 rfl 2 rfl ?_
  refine J_LS [(0, .ref 53), (1, .int a1), (2, .int a2)] [.int a2, .int ((8 : Int32) * a1), .int ((21 : Int32) + (M.1 55 20)), .ref 55] rfl rfl ?_
  refine J_iadd (pc := 19) dX4_slideOn_19 ?_
  refine J_iconst (v := (3 : Int32)) (pc := 20) dX4_slideOn_20 (by decide) ?_
  refine J_iadd (pc := 21) dX4_slideOn_21 ?_
  obtain ⟨hk1, h⟩ := inb_e h
  refine J_iast (c := 55) (N := 82) (pc := 22) (fun _ => ja_55) (Nat.le_of_ble_eq_true rfl) hk1 dX4_slideOn_22 ?_
  refine J_aload_n (pc := 23) dX4_slideOn_23 rfl 0 rfl ?_
  refine get_53_3 (pc := 24) w_1026 dX4_slideOn_24 ?_
  refine J_bipush (v := (20 : Int32)) (pc := 27) dX4_slideOn_27 (by decide) ?_
  refine J_dup2 (pc := 29) dX4_slideOn_29 rfl rfl ?_
  refine J_iald (c := 55) (N := 82) (pc := 30) ja_55 (Nat.le_of_ble_eq_true rfl) (vpc rfl) dX4_slideOn_30 ?_
  refine J_topi (x := (upI M 55 ((21 : Int32) + (M.1 55 20)).toNatClampNeg ((((8 : Int32) * a1) + a2) + (3 : Int32))).1 55 (Int32.toNatClampNeg 20)) (y := ((upI M 55 ((21 : Int32) + (M.1 55 20)).toNatClampNeg ((((8 : Int32) * a1) + a2) + (3 : Int32))).1 55 20)) (Eq.symm (a := (upI M 55 ((21 : Int32) + (M.1 55 20)).toNatClampNeg ((((8 : Int32) * a1) + a2) + (3 : Int32))).1 55 (Int32.toNatClampNeg 20)) (show (upI M 55 ((21 : Int32) + (M.1 55 20)).toNatClampNeg ((((8 : Int32) * a1) + a2) + (3 : Int32))).1 55 20 = ((upI M 55 ((21 : Int32) + (M.1 55 20)).toNatClampNeg ((((8 : Int32) * a1) + a2) + (3 : Int32))).1 55 20) from (congrFun (rI_cg rfl) _))) ?_
  refine J_iconst (v := (1 : Int32)) (pc := 31) dX4_slideOn_31 (by decide) ?_
  refine J_iadd (pc := 32) dX4_slideOn_32 ?_
  refine J_iast (c := 55) (N := 82) (pc := 33) (fun _ => ja_55) (Nat.le_of_ble_eq_true rfl) (vpc rfl) dX4_slideOn_33 ?_
  refine J_M (upI (upI M 55 ((21 : Int32) + (M.1 55 20)).toNatClampNeg ((((8 : Int32) * a1) + a2) + (3 : Int32))) 55 20 (((upI M 55 ((21 : Int32) + (M.1 55 20)).toNatClampNeg ((((8 : Int32) * a1) + a2) + (3 : Int32))).1 55 20) + (1 : Int32))) rfl ?_
  refine J_aload_n (pc := 34) dX4_slideOn_34 rfl 0 rfl ?_
  refine J_LS [(0, .ref 53), (1, .int a1), (2, .int a2)] [.ref 53] rfl rfl ?_
  refine get_53_3 (pc := 35) w_1026 dX4_slideOn_35 ?_
  refine J_bipush (v := (7 : Int32)) (pc := 38) dX4_slideOn_38 (by decide) ?_
  refine J_iload_n (pc := 40) dX4_slideOn_40 rfl 1 rfl ?_
  refine J_iadd (pc := 41) dX4_slideOn_41 ?_
  refine J_dup2 (pc := 42) dX4_slideOn_42 rfl rfl ?_
  obtain ⟨v2, e3, hk4, h⟩ := ldi_e h
  refine J_iald (c := 55) (N := 82) (pc := 43) ja_55 (Nat.le_of_ble_eq_true rfl) hk4 dX4_slideOn_43 ?_
  refine J_topi e3 ?_
  refine J_iload_n (pc := 44) dX4_slideOn_44 rfl 2 rfl ?_
  refine J_LS [(0, .ref 53), (1, .int a1), (2, .int a2)] [.int a2, .int v2, .int ((7 : Int32) + a1), .ref 55] rfl rfl ?_
  refine J_iadd (pc := 45) dX4_slideOn_45 ?_
  obtain ⟨hk5, h⟩ := inb_e h
  refine J_iast (c := 55) (N := 82) (pc := 46) (fun _ => ja_55) (Nat.le_of_ble_eq_true rfl) hk5 dX4_slideOn_46 ?_
  refine J_aload_n (pc := 47) dX4_slideOn_47 rfl 0 rfl ?_
  refine get_53_3 (pc := 48) w_1026 dX4_slideOn_48 ?_
  refine J_bipush (v := (7 : Int32)) (pc := 51) dX4_slideOn_51 (by decide) ?_
  refine J_iload_n (pc := 53) dX4_slideOn_53 rfl 1 rfl ?_
  refine J_LS [(0, .ref 53), (1, .int a1), (2, .int a2)] [.int a1, .int (7 : Int32), .ref 55] rfl rfl ?_
  refine J_iadd (pc := 54) dX4_slideOn_54 ?_
  obtain ⟨v6, e7, hk8, h⟩ := ldi_e h
  refine J_iald (c := 55) (N := 82) (pc := 55) ja_55 (Nat.le_of_ble_eq_true rfl) hk8 dX4_slideOn_55 ?_
  refine J_topi e7 ?_
  cases h
  exact J_ireturn dX4_slideOn_56 rfl rfl rfl rfl rfl
set_option maxHeartbeats 4000000 in
set_option maxRecDepth 100000 in
theorem k_X4_logCar {E : En} (a1 : Int32) (M : Wd) {r : Int32} (h : F_X4_logCar a1 M = some r) : Con E mi_X4_logCar [.ref 53, .int a1] M (.inl (some (.int r))) M := by
  unfold F_X4_logCar at h
  refine Con.of (by decide) rfl (Nat.le_of_ble_eq_true rfl) (fun κ => ?_)
  show J κ E mi_X4_logCar _ 0 0 [(0, .ref 53), (1, .int a1)] M 0 []
  refine J_aload_n (pc := 0) dX4_logCar_0 rfl 0 rfl ?_
  refine get_53_3 (pc := 1) w_1026 dX4_logCar_1 ?_
  refine J_bipush (v := (21 : Int32)) (pc := 4) dX4_logCar_4 (by decide) ?_
  refine J_iload_n (pc := 6) dX4_logCar_6 rfl 1 rfl ?_
  refine J_LS [(0, .ref 53), (1, .int a1)] [.int a1, .int (21 : Int32), .ref 55] rfl rfl ?_
  refine J_iadd (pc := 7) dX4_logCar_7 ?_
  obtain ⟨v1, e2, hk3, h⟩ := ldi_e h
  refine J_iald (c := 55) (N := 82) (pc := 8) ja_55 (Nat.le_of_ble_eq_true rfl) hk3 dX4_logCar_8 ?_
  refine J_topi e2 ?_
  refine J_bipush (v := (8 : Int32)) (pc := 9) dX4_logCar_9 (by decide) ?_
  refine J_idiv (pc := 11) dX4_logCar_11 (by decide) ?_
  cases h
  exact J_ireturn dX4_logCar_12 rfl rfl rfl rfl rfl
set_option maxHeartbeats 4000000 in
set_option maxRecDepth 100000 in
theorem k_X4_logBy {E : En} (a1 : Int32) (M : Wd) {r : Int32} (h : F_X4_logBy a1 M = some r) : Con E mi_X4_logBy [.ref 53, .int a1] M (.inl (some (.int r))) M := by
  unfold F_X4_logBy at h
  refine Con.of (by decide) rfl (Nat.le_of_ble_eq_true rfl) (fun κ => ?_)
  show J κ E mi_X4_logBy _ 0 0 [(0, .ref 53), (1, .int a1)] M 0 []
  refine J_aload_n (pc := 0) dX4_logBy_0 rfl 0 rfl ?_
  refine get_53_3 (pc := 1) w_1026 dX4_logBy_1 ?_
  refine J_bipush (v := (21 : Int32)) (pc := 4) dX4_logBy_4 (by decide) ?_
  refine J_iload_n (pc := 6) dX4_logBy_6 rfl 1 rfl ?_
  refine J_LS [(0, .ref 53), (1, .int a1)] [.int a1, .int (21 : Int32), .ref 55] rfl rfl ?_
  refine J_iadd (pc := 7) dX4_logBy_7 ?_
  obtain ⟨v1, e2, hk3, h⟩ := ldi_e h
  refine J_iald (c := 55) (N := 82) (pc := 8) ja_55 (Nat.le_of_ble_eq_true rfl) hk3 dX4_logBy_8 ?_
  refine J_topi e2 ?_
  refine J_bipush (v := (8 : Int32)) (pc := 9) dX4_logBy_9 (by decide) ?_
  refine J_irem (pc := 11) dX4_logBy_11 (by decide) ?_
  refine J_iconst (v := (3 : Int32)) (pc := 12) dX4_logBy_12 (by decide) ?_
  refine J_isub (pc := 13) dX4_logBy_13 ?_
  cases h
  exact J_ireturn dX4_logBy_14 rfl rfl rfl rfl rfl
set_option maxHeartbeats 4000000 in
set_option maxRecDepth 100000 in
theorem k_X4_backOn {E : En} (M : Wd) {r : Int32} {M' : Wd} (h : F_X4_backOn M = some (r, M')) : Con E mi_X4_backOn [.ref 53] M (.inl (some (.int r))) M' := by
  unfold F_X4_backOn at h
  refine Con.of (by decide) rfl (Nat.le_of_ble_eq_true rfl) (fun κ => ?_)
  show J κ E mi_X4_backOn _ 0 0 [(0, .ref 53)] M 0 []
  refine J_aload_n (pc := 0) dX4_backOn_0 rfl 0 rfl ?_
  refine get_53_3 (pc := 1) w_1026 dX4_backOn_1 ?_
  refine J_bipush (v := (20 : Int32)) (pc := 4) dX4_backOn_4 (by decide) ?_
  refine J_dup2 (pc := 6) dX4_backOn_6 rfl rfl ?_
  refine J_iald (c := 55) (N := 82) (pc := 7) ja_55 (Nat.le_of_ble_eq_true rfl) (vpc rfl) dX4_backOn_7 ?_
  refine J_topi (x := M.1 55 (Int32.toNatClampNeg 20)) (y := (M.1 55 20)) (Eq.symm (a := M.1 55 (Int32.toNatClampNeg 20)) (show M.1 55 20 = (M.1 55 20) from rfl)) ?_
  refine J_iconst (v := (1 : Int32)) (pc := 8) dX4_backOn_8 (by decide) ?_
  refine J_isub (pc := 9) dX4_backOn_9 ?_
  refine J_iast (c := 55) (N := 82) (pc := 10) (fun _ => ja_55) (Nat.le_of_ble_eq_true rfl) (vpc rfl) dX4_backOn_10 ?_
  refine J_M (upI M 55 20 ((M.1 55 20) - (1 : Int32))) rfl ?_
  refine J_aload_n (pc := 11) dX4_backOn_11 rfl 0 rfl ?_
  refine J_LS [(0, .ref 53)] [.ref 53] rfl rfl ?_
  refine J_aload_n (pc := 12) dX4_backOn_12 rfl 0 rfl ?_
  refine get_53_3 (pc := 13) w_1026 dX4_backOn_13 ?_
  refine J_bipush (v := (20 : Int32)) (pc := 16) dX4_backOn_16 (by decide) ?_
  refine J_iald (c := 55) (N := 82) (pc := 18) ja_55 (Nat.le_of_ble_eq_true rfl) (vpc rfl) dX4_backOn_18 ?_
  refine J_topi (x := (upI M 55 20 ((M.1 55 20) - (1 : Int32))).1 55 (Int32.toNatClampNeg 20)) (y := ((M.1 55 20) - (1 : Int32))) (Eq.symm (a := (upI M 55 20 ((M.1 55 20) - (1 : Int32))).1 55 (Int32.toNatClampNeg 20)) (show (upI M 55 20 ((M.1 55 20) - (1 : Int32))).1 55 20 = ((M.1 55 20) - (1 : Int32)) from eI_kk)) ?_
  obtain ⟨v1, hc2, h⟩ := obind_e h
  refine J_callV (g := mi_X4_logCar) (ci := 4) (pc := 19) [.int ((M.1 55 20) - (1 : Int32))] [] mv_X4_logCar w_1194 (k_X4_logCar ((M.1 55 20) - (1 : Int32)) _ hc2) rfl (by decide) rfl rfl rfl ⟨⟨Nat.le_of_ble_eq_true rfl, Nat.le_of_ble_eq_true rfl⟩, Nat.le_of_ble_eq_true rfl, Nat.le_of_ble_eq_true rfl⟩ (Nat.le_of_ble_eq_true rfl) dX4_backOn_19 (Jk_v rfl rfl fun hok3 => ?_)
  refine J_istore_n (pc := 22) dX4_backOn_22 rfl (Nat.le_of_ble_eq_true rfl) [1, 0] rfl ?_
  refine J_LS [(0, .ref 53), (1, .int v1)] [] rfl rfl ?_
  refine J_aload_n (pc := 23) dX4_backOn_23 rfl 0 rfl ?_
  refine get_53_3 (pc := 24) w_1026 dX4_backOn_24 ?_
  refine J_bipush (v := (7 : Int32)) (pc := 27) dX4_backOn_27 (by decide) ?_
  refine J_iload_n (pc := 29) dX4_backOn_29 rfl 1 rfl ?_
  refine J_LS [(0, .ref 53), (1, .int v1)] [.int v1, .int (7 : Int32), .ref 55] rfl rfl ?_
  refine J_iadd (pc := 30) dX4_backOn_30 ?_
  refine J_dup2 (pc := 31) dX4_backOn_31 rfl rfl ?_
  obtain ⟨v4, e5, hk6, h⟩ := ldi_e h
  refine J_iald (c := 55) (N := 82) (pc := 32) ja_55 (Nat.le_of_ble_eq_true rfl) hk6 dX4_backOn_32 ?_
  refine J_topi e5 ?_
  refine J_aload_n (pc := 33) dX4_backOn_33 rfl 0 rfl ?_
  refine J_aload_n (pc := 34) dX4_backOn_34 rfl 0 rfl ?_
  refine J_LS [(0, .ref 53), (1, .int v1)] [.ref 53, .ref 53, .int v4, .int ((7 : Int32) + v1), .ref 55] rfl rfl ?_
  refine get_53_3 (pc := 35) w_1026 dX4_backOn_35 ?_
  refine J_bipush (v := (20 : Int32)) (pc := 38) dX4_backOn_38 (by decide) ?_
  refine J_iald (c := 55) (N := 82) (pc := 40) ja_55 (Nat.le_of_ble_eq_true rfl) (vpc rfl) dX4_backOn_40 ?_
  refine J_topi (x := (upI M 55 20 ((M.1 55 20) - (1 : Int32))).1 55 (Int32.toNatClampNeg 20)) (y := ((M.1 55 20) - (1 : Int32))) (Eq.symm (a := (upI M 55 20 ((M.1 55 20) - (1 : Int32))).1 55 (Int32.toNatClampNeg 20)) (show (upI M 55 20 ((M.1 55 20) - (1 : Int32))).1 55 20 = ((M.1 55 20) - (1 : Int32)) from eI_kk)) ?_
  obtain ⟨v7, hc8, h⟩ := obind_e h
  refine J_callV (g := mi_X4_logBy) (ci := 4) (pc := 41) [.int ((M.1 55 20) - (1 : Int32))] [.int v4, .int ((7 : Int32) + v1), .ref 55] mv_X4_logBy w_1198 (k_X4_logBy ((M.1 55 20) - (1 : Int32)) _ hc8) rfl (by decide) rfl rfl rfl ⟨⟨Nat.le_of_ble_eq_true rfl, Nat.le_of_ble_eq_true rfl⟩, Nat.le_of_ble_eq_true rfl, Nat.le_of_ble_eq_true rfl⟩ (Nat.le_of_ble_eq_true rfl) dX4_backOn_41 (Jk_v rfl rfl fun hok9 => ?_)
  refine J_isub (pc := 44) dX4_backOn_44 ?_
  obtain ⟨hk10, h⟩ := inb_e h
  refine J_iast (c := 55) (N := 82) (pc := 45) (fun _ => ja_55) (Nat.le_of_ble_eq_true rfl) hk10 dX4_backOn_45 ?_
  refine J_iload_n (pc := 46) dX4_backOn_46 rfl 1 rfl ?_
  cases h
  exact J_ireturn dX4_backOn_47 rfl rfl rfl rfl rfl
set_option maxHeartbeats 4000000 in
set_option maxRecDepth 100000 in
theorem k_X4_canDrive {E : En} (M : Wd) {r : Int32} {M' : Wd} (h : F_X4_canDrive M = some (r, M')) : Con E mi_X4_canDrive [.ref 53] M (.inl (some (.int r))) M' := by
  unfold F_X4_canDrive at h
  refine Con.of (by decide) rfl (Nat.le_of_ble_eq_true rfl) (fun κ => ?_)
  show J κ E mi_X4_canDrive _ 0 0 [(0, .ref 53)] M 0 []
  refine J_aload_n (pc := 0) dX4_canDrive_0 rfl 0 rfl ?_
  obtain ⟨v1, M2, hc3, h⟩ := obind2_e h
  refine J_callV (g := mi_X4_planned) (ci := 4) (pc := 1) [] [] mv_X4_planned w_1214 (k_X4_planned _ hc3) rfl (by decide) rfl rfl rfl ⟨⟨Nat.le_of_ble_eq_true rfl, Nat.le_of_ble_eq_true rfl⟩, Nat.le_of_ble_eq_true rfl, Nat.le_of_ble_eq_true rfl⟩ (Nat.le_of_ble_eq_true rfl) dX4_canDrive_1 (Jk_v rfl rfl fun hok4 => ?_)
  refine J_istore_n (pc := 4) dX4_canDrive_4 rfl (Nat.le_of_ble_eq_true rfl) [1, 0] rfl ?_
  refine J_LS [(0, .ref 53), (1, .int v1)] [] rfl rfl ?_
  refine J_iload_n (pc := 5) dX4_canDrive_5 rfl 1 rfl ?_
  refine J_iconst (v := (-1 : Int32)) (pc := 6) dX4_canDrive_6 (by decide) ?_
  refine J_icmp_eq (pc := 7) (tgt := 28) dX4_canDrive_7 (by decide) (fun c5 => ?_) (fun c5 => ?_)
  · replace h := ifp c5 h
    refine J_iconst (v := (0 : Int32)) (pc := 28) dX4_canDrive_28 (by decide) ?_
    cases h
    exact J_zreturn dX4_canDrive_29 rfl (Or.inl rfl) rfl rfl rfl rfl
  · replace h := ifn c5 h
    refine J_aload_n (pc := 10) dX4_canDrive_10 rfl 0 rfl ?_
    refine J_LS [(0, .ref 53), (1, .int v1)] [.ref 53] rfl rfl ?_
    refine get_53_3 (pc := 11) w_1026 dX4_canDrive_11 ?_
    refine J_bipush (v := (20 : Int32)) (pc := 14) dX4_canDrive_14 (by decide) ?_
    refine J_iald (c := 55) (N := 82) (pc := 16) ja_55 (Nat.le_of_ble_eq_true rfl) (vpc rfl) dX4_canDrive_16 ?_
    refine J_topi (x := M2.1 55 (Int32.toNatClampNeg 20)) (y := (M2.1 55 20)) (Eq.symm (a := M2.1 55 (Int32.toNatClampNeg 20)) (show M2.1 55 20 = (M2.1 55 20) from rfl)) ?_
    refine J_iload_n (pc := 17) dX4_canDrive_17 rfl 1 rfl ?_
    refine J_iadd (pc := 18) dX4_canDrive_18 ?_
    refine J_bipush (v := (60 : Int32)) (pc := 19) dX4_canDrive_19 (by decide) ?_
    refine J_icmp_gt (pc := 21) (tgt := 28) dX4_canDrive_21 (by decide) (fun c6 => ?_) (fun c6 => ?_)
    · replace h := ifp c6 h
      refine J_iconst (v := (0 : Int32)) (pc := 28) dX4_canDrive_28 (by decide) ?_
      cases h
      exact J_zreturn dX4_canDrive_29 rfl (Or.inl rfl) rfl rfl rfl rfl
    · replace h := ifn c6 h
      refine J_iconst (v := (1 : Int32)) (pc := 24) dX4_canDrive_24 (by decide) ?_
      refine J_goto (pc := 25) (tgt := 29) dX4_canDrive_25 (by decide) ?_
      cases h
      exact J_zreturn dX4_canDrive_29 rfl (Or.inr rfl) rfl rfl rfl rfl
set_option maxHeartbeats 4000000 in
set_option maxRecDepth 100000 in
theorem kL_X4_driveOn_L7 {κ : Kx} {E : En} {Q : State → Prop} {ρ : Type} {r : ρ} (a1 : Int32) (K38 : Wd → Option ρ) (hK38 : ∀ (M : Wd), K38 M = some r → J κ E mi_X4_driveOn Q 0 0 [(1, .int a1)] M 38 []) : ∀ (m : Nat) (x2 : Int32) (M : Wd), F_X4_driveOn_L7 a1 K38 m x2 M = some r → J κ E mi_X4_driveOn Q 0 0 [(0, .ref 53), (1, .int a1), (2, .int x2)] M 7 [] := by
  intro m
  induction m with
  | zero => intro x2 M h; exact (nomatch (show (none : Option ρ) = some r from h))
  | succ m ih =>
    intro x2 M h
    unfold F_X4_driveOn_L7 at h
    refine J_iload_n (pc := 7) dX4_driveOn_7 rfl 2 rfl ?_
    refine J_iload_n (pc := 8) dX4_driveOn_8 rfl 1 rfl ?_
    refine J_LS [(0, .ref 53), (1, .int a1), (2, .int x2)] [.int a1, .int x2] rfl rfl ?_
    refine J_icmp_ge (pc := 9) (tgt := 38) dX4_driveOn_9 (by decide) (fun c5 => ?_) (fun c5 => ?_)
    · replace h := ifp c5 h
      refine J_sub [1] rfl ?_
      exact hK38 _ h
    · replace h := ifn c5 h
      refine J_aload_n (pc := 12) dX4_driveOn_12 rfl 0 rfl ?_
      obtain ⟨v6, hc7, h⟩ := obind_e h
      refine J_callV (g := mi_X4_next) (ci := 4) (pc := 13) [] [] mv_X4_next w_1262 (k_X4_next _ hc7) rfl (by decide) rfl rfl rfl ⟨⟨Nat.le_of_ble_eq_true rfl, Nat.le_of_ble_eq_true rfl⟩, Nat.le_of_ble_eq_true rfl, Nat.le_of_ble_eq_true rfl⟩ (Nat.le_of_ble_eq_true rfl) dX4_driveOn_13 (Jk_v rfl rfl fun hok8 => ?_)
      refine J_istore_n (pc := 16) dX4_driveOn_16 rfl (Nat.le_of_ble_eq_true rfl) [1, 2, 3, 0] rfl ?_
      refine J_LS [(0, .ref 53), (1, .int a1), (2, .int x2), (3, .int v6)] [] rfl rfl ?_
      refine J_aload_n (pc := 17) dX4_driveOn_17 rfl 0 rfl ?_
      refine J_iload_n (pc := 18) dX4_driveOn_18 rfl 3 rfl ?_
      refine J_LS [(0, .ref 53), (1, .int a1), (2, .int x2), (3, .int v6)] [.int v6, .ref 53] rfl rfl ?_
      refine J_bipush (v := (8 : Int32)) (pc := 19) dX4_driveOn_19 (by decide) ?_
      refine J_idiv (pc := 21) dX4_driveOn_21 (by decide) ?_
      refine J_iload_n (pc := 22) dX4_driveOn_22 rfl 3 rfl ?_
      refine J_bipush (v := (8 : Int32)) (pc := 23) dX4_driveOn_23 (by decide) ?_
      refine J_irem (pc := 25) dX4_driveOn_25 (by decide) ?_
      refine J_iconst (v := (3 : Int32)) (pc := 26) dX4_driveOn_26 (by decide) ?_
      refine J_isub (pc := 27) dX4_driveOn_27 ?_
      obtain ⟨v9, M10, hc11, h⟩ := obind2_e h
      refine J_callV (g := mi_X4_slideOn) (ci := 4) (pc := 28) [.int (v6 / (8 : Int32)), .int ((v6 - v6 / (8 : Int32) * (8 : Int32)) - (3 : Int32))] [] mv_X4_slideOn w_1182 (k_X4_slideOn (v6 / (8 : Int32)) ((v6 - v6 / (8 : Int32) * (8 : Int32)) - (3 : Int32)) _ hc11) rfl (by decide) rfl rfl rfl ⟨⟨Nat.le_of_ble_eq_true rfl, Nat.le_of_ble_eq_true rfl⟩, Nat.le_of_ble_eq_true rfl, Nat.le_of_ble_eq_true rfl⟩ (Nat.le_of_ble_eq_true rfl) dX4_driveOn_28 (Jk_v rfl rfl fun hok12 => ?_)
      refine J_pop (pc := 31) dX4_driveOn_31 rfl ?_
      obtain ⟨v13, e14, h⟩ := bnd_e h
      refine J_iinc (v := v13) (pc := 32) dX4_driveOn_32 2 rfl (by rw [e14]; rfl) (Nat.le_of_ble_eq_true rfl) [1, 2, 0, 3] rfl ?_
      refine J_goto (pc := 35) (tgt := 7) dX4_driveOn_35 (by decide) ?_
      refine J_sub [0, 1, 2] rfl ?_
      exact ih _ _ h
set_option maxHeartbeats 4000000 in
set_option maxRecDepth 100000 in
theorem k_X4_driveOn {E : En} (M : Wd) {r : Int32} {M' : Wd} (h : F_X4_driveOn M = some (r, M')) : Con E mi_X4_driveOn [.ref 53] M (.inl (some (.int r))) M' := by
  unfold F_X4_driveOn at h
  refine Con.of (by decide) rfl (Nat.le_of_ble_eq_true rfl) (fun κ => ?_)
  show J κ E mi_X4_driveOn _ 0 0 [(0, .ref 53)] M 0 []
  refine J_aload_n (pc := 0) dX4_driveOn_0 rfl 0 rfl ?_
  obtain ⟨v1, M2, hc3, h⟩ := obind2_e h
  refine J_callV (g := mi_X4_planned) (ci := 4) (pc := 1) [] [] mv_X4_planned w_1214 (k_X4_planned _ hc3) rfl (by decide) rfl rfl rfl ⟨⟨Nat.le_of_ble_eq_true rfl, Nat.le_of_ble_eq_true rfl⟩, Nat.le_of_ble_eq_true rfl, Nat.le_of_ble_eq_true rfl⟩ (Nat.le_of_ble_eq_true rfl) dX4_driveOn_1 (Jk_v rfl rfl fun hok4 => ?_)
  refine J_istore_n (pc := 4) dX4_driveOn_4 rfl (Nat.le_of_ble_eq_true rfl) [1, 0] rfl ?_
  refine J_LS [(0, .ref 53), (1, .int v1)] [] rfl rfl ?_
  refine J_iconst (v := (0 : Int32)) (pc := 5) dX4_driveOn_5 (by decide) ?_
  refine J_istore_n (pc := 6) dX4_driveOn_6 rfl (Nat.le_of_ble_eq_true rfl) [1, 2, 0] rfl ?_
  refine kL_X4_driveOn_L7 _ _ (fun M15 h => ?_) fuelN _ _ h
  refine J_iload_n (pc := 38) dX4_driveOn_38 rfl 0 rfl ?_
  refine J_LS [(1, .int v1)] [.int v1] rfl rfl ?_
  cases h
  exact J_ireturn dX4_driveOn_39 rfl rfl rfl rfl rfl
set_option maxHeartbeats 4000000 in
set_option maxRecDepth 100000 in
theorem k_X4_addCar {E : En} (a1 : Int32) (a2 : Int32) (a3 : Int32) (M : Wd) {r : Int32} {M' : Wd} (h : F_X4_addCar a1 a2 a3 M = some (r, M')) : Con E mi_X4_addCar [.ref 53, .int a1, .int a2, .int a3] M (.inl (some (.int r))) M' := by
  unfold F_X4_addCar at h
  refine Con.of (by decide) rfl (Nat.le_of_ble_eq_true rfl) (fun κ => ?_)
  show J κ E mi_X4_addCar _ 0 0 [(0, .ref 53), (1, .int a1), (2, .int a2), (3, .int a3)] M 0 []
  refine J_aload_n (pc := 0) dX4_addCar_0 rfl 0 rfl ?_
  refine J_aload_n (pc := 1) dX4_addCar_1 rfl 0 rfl ?_
  refine J_LS [(0, .ref 53), (1, .int a1), (2, .int a2), (3, .int a3)] [.ref 53, .ref 53] rfl rfl ?_
  refine J_iload_n (pc := 2) dX4_addCar_2 rfl 1 rfl ?_
  refine J_iload_n (pc := 3) dX4_addCar_3 rfl 2 rfl ?_
  refine J_LS [(0, .ref 53), (1, .int a1), (2, .int a2), (3, .int a3)] [.int a2, .int a1, .ref 53, .ref 53] rfl rfl ?_
  refine J_iload_n (pc := 4) dX4_addCar_4 rfl 3 rfl ?_
  obtain ⟨v1, hc2, h⟩ := obind_e h
  refine J_callV (g := mi_X4_wrongCar) (ci := 4) (pc := 5) [.int a1, .int a2, .int a3] [.ref 53] mv_X4_wrongCar w_1099 (k_X4_wrongCar a1 a2 a3 _ hc2) rfl (by decide) rfl rfl rfl ⟨⟨Nat.le_of_ble_eq_true rfl, Nat.le_of_ble_eq_true rfl⟩, Nat.le_of_ble_eq_true rfl, Nat.le_of_ble_eq_true rfl⟩ (Nat.le_of_ble_eq_true rfl) dX4_addCar_5 (Jk_v rfl rfl fun hok3 => ?_)
  obtain ⟨v4, M5, hc6, h⟩ := obind2_e h
  refine J_callV (g := mi_X4_refused) (ci := 4) (pc := 8) [.int v1] [] mv_X4_refused w_1120 (k_X4_refused v1 _ hc6) rfl (by decide) rfl rfl rfl ⟨⟨Nat.le_of_ble_eq_true rfl, Nat.le_of_ble_eq_true rfl⟩, Nat.le_of_ble_eq_true rfl, Nat.le_of_ble_eq_true rfl⟩ (Nat.le_of_ble_eq_true rfl) dX4_addCar_8 (Jk_v rfl rfl fun hok7 => ?_)
  refine J_if_eq (pc := 11) (tgt := 16) dX4_addCar_11 (by decide) (fun c8 => ?_) (fun c8 => ?_)
  · replace h := ifp c8 h
    refine J_aload_n (pc := 16) dX4_addCar_16 rfl 0 rfl ?_
    refine J_LS [(0, .ref 53), (1, .int a1), (2, .int a2), (3, .int a3)] [.ref 53] rfl rfl ?_
    obtain ⟨M9, hc10, h⟩ := obind_e h
    refine J_callV (g := mi_X4_saves) (ci := 4) (pc := 17) [] [] mv_X4_saves w_1124 (k_X4_saves _ hc10) rfl (by decide) rfl rfl rfl ⟨⟨Nat.le_of_ble_eq_true rfl, Nat.le_of_ble_eq_true rfl⟩, Nat.le_of_ble_eq_true rfl, Nat.le_of_ble_eq_true rfl⟩ (Nat.le_of_ble_eq_true rfl) dX4_addCar_17 (Jk_0 rfl rfl ?_)
    refine J_aload_n (pc := 20) dX4_addCar_20 rfl 0 rfl ?_
    refine J_iload_n (pc := 21) dX4_addCar_21 rfl 1 rfl ?_
    refine J_LS [(0, .ref 53), (1, .int a1), (2, .int a2), (3, .int a3)] [.int a1, .ref 53] rfl rfl ?_
    refine J_iload_n (pc := 22) dX4_addCar_22 rfl 2 rfl ?_
    refine J_iload_n (pc := 23) dX4_addCar_23 rfl 3 rfl ?_
    refine J_LS [(0, .ref 53), (1, .int a1), (2, .int a2), (3, .int a3)] [.int a3, .int a2, .int a1, .ref 53] rfl rfl ?_
    obtain ⟨v11, M12, hc13, h⟩ := obind2_e h
    refine J_callV (g := mi_X4_addOn) (ci := 4) (pc := 24) [.int a1, .int a2, .int a3] [] mv_X4_addOn w_1131 (k_X4_addOn a1 a2 a3 _ hc13) rfl (by decide) rfl rfl rfl ⟨⟨Nat.le_of_ble_eq_true rfl, Nat.le_of_ble_eq_true rfl⟩, Nat.le_of_ble_eq_true rfl, Nat.le_of_ble_eq_true rfl⟩ (Nat.le_of_ble_eq_true rfl) dX4_addCar_24 (Jk_v rfl rfl fun hok14 => ?_)
    cases h
    exact J_ireturn dX4_addCar_27 rfl rfl rfl rfl rfl
  · replace h := ifn c8 h
    refine J_iconst (v := (0 : Int32)) (pc := 14) dX4_addCar_14 (by decide) ?_
    cases h
    exact J_ireturn dX4_addCar_15 rfl rfl rfl rfl rfl
set_option maxHeartbeats 4000000 in
set_option maxRecDepth 100000 in
theorem k_X4_dropLast {E : En} (M : Wd) {r : Int32} {M' : Wd} (h : F_X4_dropLast M = some (r, M')) : Con E mi_X4_dropLast [.ref 53] M (.inl (some (.int r))) M' := by
  unfold F_X4_dropLast at h
  refine Con.of (by decide) rfl (Nat.le_of_ble_eq_true rfl) (fun κ => ?_)
  show J κ E mi_X4_dropLast _ 0 0 [(0, .ref 53)] M 0 []
  refine J_aload_n (pc := 0) dX4_dropLast_0 rfl 0 rfl ?_
  refine J_aload_n (pc := 1) dX4_dropLast_1 rfl 0 rfl ?_
  refine J_LS [(0, .ref 53)] [.ref 53, .ref 53] rfl rfl ?_
  refine get_53_3 (pc := 2) w_1026 dX4_dropLast_2 ?_
  refine J_iconst (v := (0 : Int32)) (pc := 5) dX4_dropLast_5 (by decide) ?_
  refine J_iald (c := 55) (N := 82) (pc := 6) ja_55 (Nat.le_of_ble_eq_true rfl) (vpc rfl) dX4_dropLast_6 ?_
  refine J_topi (x := M.1 55 (Int32.toNatClampNeg 0)) (y := (M.1 55 0)) (Eq.symm (a := M.1 55 (Int32.toNatClampNeg 0)) (show M.1 55 0 = (M.1 55 0) from rfl)) ?_
  obtain ⟨v1, e2, h⟩ := bnd_e h
  have hb4 : isB v1 := by rw [e2]; repeat (first | exact Or.inl rfl | exact Or.inr rfl | assumption | exact okB_b (by assumption) | apply isB_ite)
  refine J_join [(0, .ref 53)] M 15 [.int v1, .ref 53] ?_ (fun hJ => ?_)
  · obtain ⟨v5, M6, hc7, h⟩ := obind2_e h
    refine J_callV (g := mi_X4_refused) (ci := 4) (pc := 15) [.int v1] [] mv_X4_refused w_1120 (k_X4_refused v1 _ hc7) rfl (by decide) rfl rfl rfl ⟨⟨Nat.le_of_ble_eq_true rfl, Nat.le_of_ble_eq_true rfl⟩, Nat.le_of_ble_eq_true rfl, Nat.le_of_ble_eq_true rfl⟩ (Nat.le_of_ble_eq_true rfl) dX4_dropLast_15 (Jk_v rfl rfl fun hok8 => ?_)
    refine J_if_eq (pc := 18) (tgt := 23) dX4_dropLast_18 (by decide) (fun c9 => ?_) (fun c9 => ?_)
    · replace h := ifp c9 h
      refine J_aload_n (pc := 23) dX4_dropLast_23 rfl 0 rfl ?_
      obtain ⟨M10, hc11, h⟩ := obind_e h
      refine J_callV (g := mi_X4_saves) (ci := 4) (pc := 24) [] [] mv_X4_saves w_1124 (k_X4_saves _ hc11) rfl (by decide) rfl rfl rfl ⟨⟨Nat.le_of_ble_eq_true rfl, Nat.le_of_ble_eq_true rfl⟩, Nat.le_of_ble_eq_true rfl, Nat.le_of_ble_eq_true rfl⟩ (Nat.le_of_ble_eq_true rfl) dX4_dropLast_24 (Jk_0 rfl rfl ?_)
      refine J_aload_n (pc := 27) dX4_dropLast_27 rfl 0 rfl ?_
      refine J_LS [(0, .ref 53)] [.ref 53] rfl rfl ?_
      refine get_53_3 (pc := 28) w_1026 dX4_dropLast_28 ?_
      refine J_iconst (v := (0 : Int32)) (pc := 31) dX4_dropLast_31 (by decide) ?_
      refine J_dup2 (pc := 32) dX4_dropLast_32 rfl rfl ?_
      refine J_iald (c := 55) (N := 82) (pc := 33) ja_55 (Nat.le_of_ble_eq_true rfl) (vpc rfl) dX4_dropLast_33 ?_
      refine J_topi (x := M10.1 55 (Int32.toNatClampNeg 0)) (y := (M10.1 55 0)) (Eq.symm (a := M10.1 55 (Int32.toNatClampNeg 0)) (show M10.1 55 0 = (M10.1 55 0) from rfl)) ?_
      refine J_iconst (v := (1 : Int32)) (pc := 34) dX4_dropLast_34 (by decide) ?_
      refine J_isub (pc := 35) dX4_dropLast_35 ?_
      refine J_iast (c := 55) (N := 82) (pc := 36) (fun _ => ja_55) (Nat.le_of_ble_eq_true rfl) (vpc rfl) dX4_dropLast_36 ?_
      refine J_M (upI M10 55 0 ((M10.1 55 0) - (1 : Int32))) rfl ?_
      refine J_aload_n (pc := 37) dX4_dropLast_37 rfl 0 rfl ?_
      refine get_53_3 (pc := 38) w_1026 dX4_dropLast_38 ?_
      refine J_bipush (v := (20 : Int32)) (pc := 41) dX4_dropLast_41 (by decide) ?_
      refine J_iconst (v := (0 : Int32)) (pc := 43) dX4_dropLast_43 (by decide) ?_
      refine J_iast (c := 55) (N := 82) (pc := 44) (fun _ => ja_55) (Nat.le_of_ble_eq_true rfl) (vpc rfl) dX4_dropLast_44 ?_
      refine J_M (upI (upI M10 55 0 ((M10.1 55 0) - (1 : Int32))) 55 20 (0 : Int32)) rfl ?_
      refine J_aload_n (pc := 45) dX4_dropLast_45 rfl 0 rfl ?_
      refine J_LS [(0, .ref 53)] [.ref 53] rfl rfl ?_
      refine get_53_3 (pc := 46) w_1026 dX4_dropLast_46 ?_
      refine J_iconst (v := (0 : Int32)) (pc := 49) dX4_dropLast_49 (by decide) ?_
      refine J_iald (c := 55) (N := 82) (pc := 50) ja_55 (Nat.le_of_ble_eq_true rfl) (vpc rfl) dX4_dropLast_50 ?_
      refine J_topi (x := (upI (upI M10 55 0 ((M10.1 55 0) - (1 : Int32))) 55 20 (0 : Int32)).1 55 (Int32.toNatClampNeg 0)) (y := ((M10.1 55 0) - (1 : Int32))) (Eq.symm (a := (upI (upI M10 55 0 ((M10.1 55 0) - (1 : Int32))) 55 20 (0 : Int32)).1 55 (Int32.toNatClampNeg 0)) (show (upI (upI M10 55 0 ((M10.1 55 0) - (1 : Int32))) 55 20 (0 : Int32)).1 55 0 = ((M10.1 55 0) - (1 : Int32)) from (eI_kn (Nat.ne_of_beq_eq_false rfl) eI_kk))) ?_
      cases h
      exact J_ireturn dX4_dropLast_51 rfl rfl rfl rfl rfl
    · replace h := ifn c9 h
      refine J_iconst (v := (0 : Int32)) (pc := 21) dX4_dropLast_21 (by decide) ?_
      cases h
      exact J_ireturn dX4_dropLast_22 rfl rfl rfl rfl rfl
  · refine J_if_le (pc := 7) (tgt := 14) dX4_dropLast_7 (by decide) (fun c3 => ?_) (fun c3 => ?_)
    · refine J_iconst (v := (1 : Int32)) (pc := 14) dX4_dropLast_14 (by decide) ?_
      refine J_topi (y := v1) (by rw [e2, if_pos c3]) ?_
      exact hJ
    · refine J_iconst (v := (0 : Int32)) (pc := 10) dX4_dropLast_10 (by decide) ?_
      refine J_goto (pc := 11) (tgt := 15) dX4_dropLast_11 (by decide) ?_
      refine J_topi (y := v1) (by rw [e2, if_neg c3]) ?_
      exact hJ
set_option maxHeartbeats 4000000 in
set_option maxRecDepth 100000 in
theorem k_X4_toggleWall {E : En} (a1 : Int32) (M : Wd) {r : Int32} {M' : Wd} (h : F_X4_toggleWall a1 M = some (r, M')) : Con E mi_X4_toggleWall [.ref 53, .int a1] M (.inl (some (.int r))) M' := by
  unfold F_X4_toggleWall at h
  refine Con.of (by decide) rfl (Nat.le_of_ble_eq_true rfl) (fun κ => ?_)
  show J κ E mi_X4_toggleWall _ 0 0 [(0, .ref 53), (1, .int a1)] M 0 []
  refine J_aload_n (pc := 0) dX4_toggleWall_0 rfl 0 rfl ?_
  refine J_iload_n (pc := 1) dX4_toggleWall_1 rfl 1 rfl ?_
  refine J_LS [(0, .ref 53), (1, .int a1)] [.int a1, .ref 53] rfl rfl ?_
  refine J_callS (g := mi_X4_isCell) (pc := 2) [.int a1] [.ref 53] ms_X4_isCell w_1143 (k_X4_isCell a1 _) rfl rfl ⟨⟨Nat.le_of_ble_eq_true rfl, Nat.le_of_ble_eq_true rfl⟩, Nat.le_of_ble_eq_true rfl, Nat.le_of_ble_eq_true rfl⟩ (Nat.le_of_ble_eq_true rfl) dX4_toggleWall_2 (Jk_v rfl rfl fun hok1 => ?_)
  obtain ⟨v2, hv8, h⟩ := obind_e h
  refine J_join [(0, .ref 53), (1, .int a1)] M 25 [.int v2, .ref 53] ?_ (fun hJ => ?_)
  · obtain ⟨v9, M10, hc11, h⟩ := obind2_e h
    refine J_callV (g := mi_X4_refused) (ci := 4) (pc := 25) [.int v2] [] mv_X4_refused w_1120 (k_X4_refused v2 _ hc11) rfl (by decide) rfl rfl rfl ⟨⟨Nat.le_of_ble_eq_true rfl, Nat.le_of_ble_eq_true rfl⟩, Nat.le_of_ble_eq_true rfl, Nat.le_of_ble_eq_true rfl⟩ (Nat.le_of_ble_eq_true rfl) dX4_toggleWall_25 (Jk_v rfl rfl fun hok12 => ?_)
    refine J_if_eq (pc := 28) (tgt := 33) dX4_toggleWall_28 (by decide) (fun c13 => ?_) (fun c13 => ?_)
    · replace h := ifp c13 h
      refine J_aload_n (pc := 33) dX4_toggleWall_33 rfl 0 rfl ?_
      obtain ⟨M14, hc15, h⟩ := obind_e h
      refine J_callV (g := mi_X4_saves) (ci := 4) (pc := 34) [] [] mv_X4_saves w_1124 (k_X4_saves _ hc15) rfl (by decide) rfl rfl rfl ⟨⟨Nat.le_of_ble_eq_true rfl, Nat.le_of_ble_eq_true rfl⟩, Nat.le_of_ble_eq_true rfl, Nat.le_of_ble_eq_true rfl⟩ (Nat.le_of_ble_eq_true rfl) dX4_toggleWall_34 (Jk_0 rfl rfl ?_)
      refine J_aload_n (pc := 37) dX4_toggleWall_37 rfl 0 rfl ?_
      refine J_LS [(0, .ref 53), (1, .int a1)] [.ref 53] rfl rfl ?_
      refine J_iload_n (pc := 38) dX4_toggleWall_38 rfl 1 rfl ?_
      obtain ⟨v16, M17, hc18, h⟩ := obind2_e h
      refine J_callV (g := mi_X4_turnOn) (ci := 4) (pc := 39) [.int a1] [] mv_X4_turnOn w_1158 (k_X4_turnOn a1 _ hc18) rfl (by decide) rfl rfl rfl ⟨⟨Nat.le_of_ble_eq_true rfl, Nat.le_of_ble_eq_true rfl⟩, Nat.le_of_ble_eq_true rfl, Nat.le_of_ble_eq_true rfl⟩ (Nat.le_of_ble_eq_true rfl) dX4_toggleWall_39 (Jk_v rfl rfl fun hok19 => ?_)
      cases h
      exact J_zreturn dX4_toggleWall_42 rfl (okB_b hok19) rfl rfl rfl rfl
    · replace h := ifn c13 h
      refine J_iconst (v := (0 : Int32)) (pc := 31) dX4_toggleWall_31 (by decide) ?_
      cases h
      exact J_zreturn dX4_toggleWall_32 rfl (Or.inl rfl) rfl rfl rfl rfl
  · replace h := hv8
    refine J_if_ne (pc := 5) (tgt := 12) dX4_toggleWall_5 (by decide) (fun c3 => ?_) (fun c3 => ?_)
    · replace h := ifn c3 h
      refine J_aload_n (pc := 12) dX4_toggleWall_12 rfl 0 rfl ?_
      refine J_iload_n (pc := 13) dX4_toggleWall_13 rfl 1 rfl ?_
      refine J_LS [(0, .ref 53), (1, .int a1)] [.int a1, .ref 53, .ref 53] rfl rfl ?_
      obtain ⟨v4, hc5, h⟩ := obind_e h
      refine J_callV (g := mi_X4_canTurn) (ci := 4) (pc := 14) [.int a1] [.ref 53] mv_X4_canTurn w_1147 (k_X4_canTurn a1 _ hc5) rfl (by decide) rfl rfl rfl ⟨⟨Nat.le_of_ble_eq_true rfl, Nat.le_of_ble_eq_true rfl⟩, Nat.le_of_ble_eq_true rfl, Nat.le_of_ble_eq_true rfl⟩ (Nat.le_of_ble_eq_true rfl) dX4_toggleWall_14 (Jk_v rfl rfl fun hok6 => ?_)
      refine J_if_eq (pc := 17) (tgt := 24) dX4_toggleWall_17 (by decide) (fun c7 => ?_) (fun c7 => ?_)
      · replace h := ifp c7 h
        refine J_iconst (v := (2 : Int32)) (pc := 24) dX4_toggleWall_24 (by decide) ?_
        cases h
        exact hJ
      · replace h := ifn c7 h
        refine J_iconst (v := (0 : Int32)) (pc := 20) dX4_toggleWall_20 (by decide) ?_
        refine J_goto (pc := 21) (tgt := 25) dX4_toggleWall_21 (by decide) ?_
        cases h
        exact hJ
    · replace h := ifp c3 h
      refine J_iconst (v := (1 : Int32)) (pc := 8) dX4_toggleWall_8 (by decide) ?_
      refine J_goto (pc := 9) (tgt := 25) dX4_toggleWall_9 (by decide) ?_
      cases h
      exact hJ
set_option maxHeartbeats 4000000 in
set_option maxRecDepth 100000 in
theorem k_X4_isChange {E : En} (a0 : Int32) (M : Wd) : Con E mi_X4_isChange [.int a0] M (.inl (some (.int (F_X4_isChange a0)))) M := by
  obtain ⟨r, h⟩ : ∃ r, F_X4_isChange a0 = r := ⟨_, rfl⟩
  rw [h]
  unfold F_X4_isChange at h
  refine Con.of (by decide) rfl (Nat.le_of_ble_eq_true rfl) (fun κ => ?_)
  show J κ E mi_X4_isChange _ 0 0 [(0, .int a0)] M 0 []
  refine J_iload_n (pc := 0) dX4_isChange_0 rfl 0 rfl ?_
  refine J_i2l (pc := 1) dX4_isChange_1 ?_
  refine J_ldc2 (pc := 2) w_1173 dX4_isChange_2 ?_
  refine J_ldc2 (pc := 5) w_1108 dX4_isChange_5 ?_
  refine J_callS (g := mi_X4_in) (pc := 8) [.long a0.toInt64, .long (-3 : Int64), .long (3 : Int64)] [] ms_X4_in w_1104 (k_X4_in a0.toInt64 (-3 : Int64) (3 : Int64) _) rfl rfl ⟨⟨Nat.le_of_ble_eq_true rfl, Nat.le_of_ble_eq_true rfl⟩, Nat.le_of_ble_eq_true rfl, Nat.le_of_ble_eq_true rfl⟩ (Nat.le_of_ble_eq_true rfl) dX4_isChange_8 (Jk_v rfl rfl fun hok1 => ?_)
  refine J_if_eq (pc := 11) (tgt := 22) dX4_isChange_11 (by decide) (fun c2 => ?_) (fun c2 => ?_)
  · replace h := ifp c2 h
    refine J_iconst (v := (0 : Int32)) (pc := 22) dX4_isChange_22 (by decide) ?_
    subst h
    exact J_zreturn dX4_isChange_23 rfl (Or.inl rfl) rfl rfl rfl rfl
  · replace h := ifn c2 h
    refine J_iload_n (pc := 14) dX4_isChange_14 rfl 0 rfl ?_
    refine J_LS [(0, .int a0)] [.int a0] rfl rfl ?_
    refine J_if_eq (pc := 15) (tgt := 22) dX4_isChange_15 (by decide) (fun c3 => ?_) (fun c3 => ?_)
    · replace h := ifp c3 h
      refine J_iconst (v := (0 : Int32)) (pc := 22) dX4_isChange_22 (by decide) ?_
      subst h
      exact J_zreturn dX4_isChange_23 rfl (Or.inl rfl) rfl rfl rfl rfl
    · replace h := ifn c3 h
      refine J_iconst (v := (1 : Int32)) (pc := 18) dX4_isChange_18 (by decide) ?_
      refine J_goto (pc := 19) (tgt := 23) dX4_isChange_19 (by decide) ?_
      subst h
      exact J_zreturn dX4_isChange_23 rfl (Or.inr rfl) rfl rfl rfl rfl
set_option maxHeartbeats 4000000 in
set_option maxRecDepth 100000 in
theorem k_X4_slide {E : En} (a1 : Int32) (a2 : Int32) (M : Wd) {r : Int32} {M' : Wd} (h : F_X4_slide a1 a2 M = some (r, M')) : Con E mi_X4_slide [.ref 53, .int a1, .int a2] M (.inl (some (.int r))) M' := by
  unfold F_X4_slide at h
  refine Con.of (by decide) rfl (Nat.le_of_ble_eq_true rfl) (fun κ => ?_)
  show J κ E mi_X4_slide _ 0 0 [(0, .ref 53), (1, .int a1), (2, .int a2)] M 0 []
  refine J_aload_n (pc := 0) dX4_slide_0 rfl 0 rfl ?_
  refine J_aload_n (pc := 1) dX4_slide_1 rfl 0 rfl ?_
  refine J_LS [(0, .ref 53), (1, .int a1), (2, .int a2)] [.ref 53, .ref 53] rfl rfl ?_
  refine J_iload_n (pc := 2) dX4_slide_2 rfl 1 rfl ?_
  refine J_callV (g := mi_X4_isCar) (ci := 4) (pc := 3) [.int a1] [.ref 53] mv_X4_isCar w_1166 (k_X4_isCar a1 _) rfl (by decide) rfl rfl rfl ⟨⟨Nat.le_of_ble_eq_true rfl, Nat.le_of_ble_eq_true rfl⟩, Nat.le_of_ble_eq_true rfl, Nat.le_of_ble_eq_true rfl⟩ (Nat.le_of_ble_eq_true rfl) dX4_slide_3 (Jk_v rfl rfl fun hok1 => ?_)
  obtain ⟨v2, hv11, h⟩ := obind_e h
  refine J_join [(0, .ref 53), (1, .int a1), (2, .int a2)] M 50 [.int v2, .ref 53] ?_ (fun hJ => ?_)
  · obtain ⟨v12, M13, hc14, h⟩ := obind2_e h
    refine J_callV (g := mi_X4_refused) (ci := 4) (pc := 50) [.int v2] [] mv_X4_refused w_1120 (k_X4_refused v2 _ hc14) rfl (by decide) rfl rfl rfl ⟨⟨Nat.le_of_ble_eq_true rfl, Nat.le_of_ble_eq_true rfl⟩, Nat.le_of_ble_eq_true rfl, Nat.le_of_ble_eq_true rfl⟩ (Nat.le_of_ble_eq_true rfl) dX4_slide_50 (Jk_v rfl rfl fun hok15 => ?_)
    refine J_if_eq (pc := 53) (tgt := 58) dX4_slide_53 (by decide) (fun c16 => ?_) (fun c16 => ?_)
    · replace h := ifp c16 h
      refine J_aload_n (pc := 58) dX4_slide_58 rfl 0 rfl ?_
      obtain ⟨M17, hc18, h⟩ := obind_e h
      refine J_callV (g := mi_X4_saves) (ci := 4) (pc := 59) [] [] mv_X4_saves w_1124 (k_X4_saves _ hc18) rfl (by decide) rfl rfl rfl ⟨⟨Nat.le_of_ble_eq_true rfl, Nat.le_of_ble_eq_true rfl⟩, Nat.le_of_ble_eq_true rfl, Nat.le_of_ble_eq_true rfl⟩ (Nat.le_of_ble_eq_true rfl) dX4_slide_59 (Jk_0 rfl rfl ?_)
      refine J_aload_n (pc := 62) dX4_slide_62 rfl 0 rfl ?_
      refine J_LS [(0, .ref 53), (1, .int a1), (2, .int a2)] [.ref 53] rfl rfl ?_
      refine J_iload_n (pc := 63) dX4_slide_63 rfl 1 rfl ?_
      refine J_iload_n (pc := 64) dX4_slide_64 rfl 2 rfl ?_
      refine J_LS [(0, .ref 53), (1, .int a1), (2, .int a2)] [.int a2, .int a1, .ref 53] rfl rfl ?_
      obtain ⟨v19, M20, hc21, h⟩ := obind2_e h
      refine J_callV (g := mi_X4_slideOn) (ci := 4) (pc := 65) [.int a1, .int a2] [] mv_X4_slideOn w_1182 (k_X4_slideOn a1 a2 _ hc21) rfl (by decide) rfl rfl rfl ⟨⟨Nat.le_of_ble_eq_true rfl, Nat.le_of_ble_eq_true rfl⟩, Nat.le_of_ble_eq_true rfl, Nat.le_of_ble_eq_true rfl⟩ (Nat.le_of_ble_eq_true rfl) dX4_slide_65 (Jk_v rfl rfl fun hok22 => ?_)
      cases h
      exact J_ireturn dX4_slide_68 rfl rfl rfl rfl rfl
    · replace h := ifn c16 h
      refine J_iconst (v := (0 : Int32)) (pc := 56) dX4_slide_56 (by decide) ?_
      cases h
      exact J_ireturn dX4_slide_57 rfl rfl rfl rfl rfl
  · replace h := hv11
    refine J_if_ne (pc := 6) (tgt := 13) dX4_slide_6 (by decide) (fun c3 => ?_) (fun c3 => ?_)
    · replace h := ifn c3 h
      refine J_iload_n (pc := 13) dX4_slide_13 rfl 2 rfl ?_
      refine J_LS [(0, .ref 53), (1, .int a1), (2, .int a2)] [.int a2, .ref 53] rfl rfl ?_
      refine J_callS (g := mi_X4_isChange) (pc := 14) [.int a2] [.ref 53] ms_X4_isChange w_1170 (k_X4_isChange a2 _) rfl rfl ⟨⟨Nat.le_of_ble_eq_true rfl, Nat.le_of_ble_eq_true rfl⟩, Nat.le_of_ble_eq_true rfl, Nat.le_of_ble_eq_true rfl⟩ (Nat.le_of_ble_eq_true rfl) dX4_slide_14 (Jk_v rfl rfl fun hok4 => ?_)
      refine J_if_ne (pc := 17) (tgt := 24) dX4_slide_17 (by decide) (fun c5 => ?_) (fun c5 => ?_)
      · replace h := ifn c5 h
        refine J_aload_n (pc := 24) dX4_slide_24 rfl 0 rfl ?_
        refine J_iload_n (pc := 25) dX4_slide_25 rfl 1 rfl ?_
        refine J_LS [(0, .ref 53), (1, .int a1), (2, .int a2)] [.int a1, .ref 53, .ref 53] rfl rfl ?_
        refine J_iload_n (pc := 26) dX4_slide_26 rfl 2 rfl ?_
        obtain ⟨v6, hc7, h⟩ := obind_e h
        refine J_callV (g := mi_X4_canSlide) (ci := 4) (pc := 27) [.int a1, .int a2] [.ref 53] mv_X4_canSlide w_1174 (k_X4_canSlide a1 a2 _ hc7) rfl (by decide) rfl rfl rfl ⟨⟨Nat.le_of_ble_eq_true rfl, Nat.le_of_ble_eq_true rfl⟩, Nat.le_of_ble_eq_true rfl, Nat.le_of_ble_eq_true rfl⟩ (Nat.le_of_ble_eq_true rfl) dX4_slide_27 (Jk_v rfl rfl fun hok8 => ?_)
        refine J_if_eq (pc := 30) (tgt := 49) dX4_slide_30 (by decide) (fun c9 => ?_) (fun c9 => ?_)
        · replace h := ifp c9 h
          refine J_iconst (v := (3 : Int32)) (pc := 49) dX4_slide_49 (by decide) ?_
          cases h
          exact hJ
        · replace h := ifn c9 h
          refine J_aload_n (pc := 33) dX4_slide_33 rfl 0 rfl ?_
          refine J_LS [(0, .ref 53), (1, .int a1), (2, .int a2)] [.ref 53, .ref 53] rfl rfl ?_
          refine get_53_3 (pc := 34) w_1026 dX4_slide_34 ?_
          refine J_bipush (v := (20 : Int32)) (pc := 37) dX4_slide_37 (by decide) ?_
          refine J_iald (c := 55) (N := 82) (pc := 39) ja_55 (Nat.le_of_ble_eq_true rfl) (vpc rfl) dX4_slide_39 ?_
          refine J_topi (x := M.1 55 (Int32.toNatClampNeg 20)) (y := (M.1 55 20)) (Eq.symm (a := M.1 55 (Int32.toNatClampNeg 20)) (show M.1 55 20 = (M.1 55 20) from rfl)) ?_
          refine J_bipush (v := (60 : Int32)) (pc := 40) dX4_slide_40 (by decide) ?_
          refine J_icmp_ge (pc := 42) (tgt := 49) dX4_slide_42 (by decide) (fun c10 => ?_) (fun c10 => ?_)
          · replace h := ifp c10 h
            refine J_iconst (v := (3 : Int32)) (pc := 49) dX4_slide_49 (by decide) ?_
            cases h
            exact hJ
          · replace h := ifn c10 h
            refine J_iconst (v := (0 : Int32)) (pc := 45) dX4_slide_45 (by decide) ?_
            refine J_goto (pc := 46) (tgt := 50) dX4_slide_46 (by decide) ?_
            cases h
            exact hJ
      · replace h := ifp c5 h
        refine J_iconst (v := (2 : Int32)) (pc := 20) dX4_slide_20 (by decide) ?_
        refine J_goto (pc := 21) (tgt := 50) dX4_slide_21 (by decide) ?_
        cases h
        exact hJ
    · replace h := ifp c3 h
      refine J_iconst (v := (1 : Int32)) (pc := 9) dX4_slide_9 (by decide) ?_
      refine J_goto (pc := 10) (tgt := 50) dX4_slide_10 (by decide) ?_
      cases h
      exact hJ

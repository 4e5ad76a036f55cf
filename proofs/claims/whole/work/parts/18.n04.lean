/-! ===== the constructors with great arrays ===== -/
set_option maxRecDepth 20000 in
theorem con_X0_44 {E : En} {g : Nat → va_E} (hb : g 44 = .inr (0, [.null, .null, .null, .null, .null, .null, .int 0, .int 0, .int 0, .int 0, .int 0, .int 0])) : ConI E mi_X0_init 44 g (gB E g 44) 45 51 := by
  refine ConI.of (by decide) rfl (Nat.le_of_ble_eq_true rfl) (fun κ => ?_)
  refine N_aload_n (pc := 0) dX0_init_0 rfl 0 rfl ?_
  refine N_objInit (pc := 1) wi_160 wi_101 wi_102 (Nat.le_of_ble_eq_true rfl) (Nat.le_of_ble_eq_true rfl) dX0_init_1 ?_
  refine N_aload_n (pc := 4) dX0_init_4 rfl 0 rfl ?_
  refine N_bipush (v := (6 : Int32)) (pc := 5) dX0_init_5 (by decide) ?_
  refine N_newa (atype := .int) (ty := .int) (pc := 7) (j := 0) (N := 6) (a0 := (6, .inl (fun _ => 0))) wi_153 rfl rfl (fun _ _ h => h) (fun _ => rfl) (by decide +kernel) (by decide +kernel) (Nat.le_of_ble_eq_true rfl) (Nat.le_of_ble_eq_true rfl) (Nat.le_of_ble_eq_true rfl) (by decide) dX0_init_7 ?_
  refine N_putF (pc := 9) (v := .ref 45) (c := 44) (ci := 0) (T := TX0) (N := 12) (fs := [.null, .null, .null, .null, .null, .null, .int 0, .int 0, .int 0, .int 0, .int 0, .int 0]) ((gs_n (by decide)).trans hb) (by decide) (by decide) rfl lay_X0 tyX0 tyX0_ok nmX0 0 (by decide) wi_161 rfl rfl rfl rfl rfl rfl (Nat.le_of_ble_eq_true rfl) dX0_init_9 ?_
  refine N_aload_n (pc := 12) dX0_init_12 rfl 0 rfl ?_
  refine N_sipush (v := (4096 : Int32)) (pc := 13) dX0_init_13 (by decide) ?_
  refine N_newa (atype := .int) (ty := .int) (pc := 16) (j := 0) (N := 4096) (a0 := (4096, .inl (fun _ => 0))) wi_153 rfl rfl (fun _ _ h => h) (fun _ => rfl) (by decide +kernel) (by decide +kernel) (Nat.le_of_ble_eq_true rfl) (Nat.le_of_ble_eq_true rfl) (Nat.le_of_ble_eq_true rfl) (by decide) dX0_init_16 ?_
  refine N_putF (pc := 18) (v := .ref 46) (c := 44) (ci := 0) (T := TX0) (N := 12) (fs := [.ref (adr E 45), .null, .null, .null, .null, .null, .int 0, .int 0, .int 0, .int 0, .int 0, .int 0]) ((gs_n (by decide)).trans gs_s) (by decide) (by decide) rfl lay_X0 tyX0 tyX0_ok nmX0 1 (by decide) wi_162 rfl rfl rfl rfl rfl rfl (Nat.le_of_ble_eq_true rfl) dX0_init_18 ?_
  refine N_aload_n (pc := 21) dX0_init_21 rfl 0 rfl ?_
  refine N_sipush (v := (4096 : Int32)) (pc := 22) dX0_init_22 (by decide) ?_
  refine N_newa (atype := .int) (ty := .int) (pc := 25) (j := 0) (N := 4096) (a0 := (4096, .inl (fun _ => 0))) wi_153 rfl rfl (fun _ _ h => h) (fun _ => rfl) (by decide +kernel) (by decide +kernel) (Nat.le_of_ble_eq_true rfl) (Nat.le_of_ble_eq_true rfl) (Nat.le_of_ble_eq_true rfl) (by decide) dX0_init_25 ?_
  refine N_putF (pc := 27) (v := .ref 47) (c := 44) (ci := 0) (T := TX0) (N := 12) (fs := [.ref (adr E 45), .ref (adr E 46), .null, .null, .null, .null, .int 0, .int 0, .int 0, .int 0, .int 0, .int 0]) ((gs_n (by decide)).trans gs_s) (by decide) (by decide) rfl lay_X0 tyX0 tyX0_ok nmX0 2 (by decide) wi_163 rfl rfl rfl rfl rfl rfl (Nat.le_of_ble_eq_true rfl) dX0_init_27 ?_
  refine N_aload_n (pc := 30) dX0_init_30 rfl 0 rfl ?_
  refine N_sipush (v := (4096 : Int32)) (pc := 31) dX0_init_31 (by decide) ?_
  refine N_newa (atype := .int) (ty := .int) (pc := 34) (j := 0) (N := 4096) (a0 := (4096, .inl (fun _ => 0))) wi_153 rfl rfl (fun _ _ h => h) (fun _ => rfl) (by decide +kernel) (by decide +kernel) (Nat.le_of_ble_eq_true rfl) (Nat.le_of_ble_eq_true rfl) (Nat.le_of_ble_eq_true rfl) (by decide) dX0_init_34 ?_
  refine N_putF (pc := 36) (v := .ref 48) (c := 44) (ci := 0) (T := TX0) (N := 12) (fs := [.ref (adr E 45), .ref (adr E 46), .ref (adr E 47), .null, .null, .null, .int 0, .int 0, .int 0, .int 0, .int 0, .int 0]) ((gs_n (by decide)).trans gs_s) (by decide) (by decide) rfl lay_X0 tyX0 tyX0_ok nmX0 3 (by decide) wi_164 rfl rfl rfl rfl rfl rfl (Nat.le_of_ble_eq_true rfl) dX0_init_36 ?_
  refine N_aload_n (pc := 39) dX0_init_39 rfl 0 rfl ?_
  refine N_sipush (v := (16384 : Int32)) (pc := 40) dX0_init_40 (by decide) ?_
  refine N_newa (atype := .int) (ty := .int) (pc := 43) (j := 0) (N := 16384) (a0 := (16384, .inl (fun _ => 0))) wi_153 rfl rfl (fun _ _ h => h) (fun _ => rfl) (by decide +kernel) (by decide +kernel) (Nat.le_of_ble_eq_true rfl) (Nat.le_of_ble_eq_true rfl) (Nat.le_of_ble_eq_true rfl) (by decide) dX0_init_43 ?_
  refine N_putF (pc := 45) (v := .ref 49) (c := 44) (ci := 0) (T := TX0) (N := 12) (fs := [.ref (adr E 45), .ref (adr E 46), .ref (adr E 47), .ref (adr E 48), .null, .null, .int 0, .int 0, .int 0, .int 0, .int 0, .int 0]) ((gs_n (by decide)).trans gs_s) (by decide) (by decide) rfl lay_X0 tyX0 tyX0_ok nmX0 4 (by decide) wi_165 rfl rfl rfl rfl rfl rfl (Nat.le_of_ble_eq_true rfl) dX0_init_45 ?_
  refine N_aload_n (pc := 48) dX0_init_48 rfl 0 rfl ?_
  refine N_iconst (v := (4 : Int32)) (pc := 49) dX0_init_49 (by decide) ?_
  refine N_newa (atype := .int) (ty := .int) (pc := 50) (j := 0) (N := 4) (a0 := (4, .inl (fun _ => 0))) wi_153 rfl rfl (fun _ _ h => h) (fun _ => rfl) (by decide +kernel) (by decide +kernel) (Nat.le_of_ble_eq_true rfl) (Nat.le_of_ble_eq_true rfl) (Nat.le_of_ble_eq_true rfl) (by decide) dX0_init_50 ?_
  refine N_putF (pc := 52) (v := .ref 50) (c := 44) (ci := 0) (T := TX0) (N := 12) (fs := [.ref (adr E 45), .ref (adr E 46), .ref (adr E 47), .ref (adr E 48), .ref (adr E 49), .null, .int 0, .int 0, .int 0, .int 0, .int 0, .int 0]) ((gs_n (by decide)).trans gs_s) (by decide) (by decide) rfl lay_X0 tyX0 tyX0_ok nmX0 5 (by decide) wi_166 rfl rfl rfl rfl rfl rfl (Nat.le_of_ble_eq_true rfl) dX0_init_52 ?_
  refine N_return (pc := 55) dX0_init_55 rfl (fun i hi => ?_) rfl rfl rfl
  rcases Nat.lt_or_ge i 44 with h | h
  · refine (gs_n (show i ≠ 44 by omega)).trans <| (gs_n (show i ≠ 50 by omega)).trans <| (gs_n (show i ≠ 44 by omega)).trans <| (gs_n (show i ≠ 49 by omega)).trans <| (gs_n (show i ≠ 44 by omega)).trans <| (gs_n (show i ≠ 48 by omega)).trans <| (gs_n (show i ≠ 44 by omega)).trans <| (gs_n (show i ≠ 47 by omega)).trans <| (gs_n (show i ≠ 44 by omega)).trans <| (gs_n (show i ≠ 46 by omega)).trans <| (gs_n (show i ≠ 44 by omega)).trans <| (gs_n (show i ≠ 45 by omega)).trans <| Eq.trans rfl (gB_lo h).symm
  · have h9 : i = 44 ∨ i = 45 ∨ i = 46 ∨ i = 47 ∨ i = 48 ∨ i = 49 ∨ i = 50 := by omega
    rcases h9 with rfl | rfl | rfl | rfl | rfl | rfl | rfl <;> rfl
set_option maxRecDepth 20000 in
theorem con_X4_53 {E : En} {g : Nat → va_E} (hb : g 53 = .inr (4, [.int 0, .null, .int 0, .null, .null, .int 0, .null, .int 0, .null, .int 0, .int 0, .null, .null, .null, .int 0, .int 0, .int 0, .int 0, .int 0, .int 0, .int 0, .long 0])) : ConI E mi_X4_init 53 g (gB E g 53) 54 62 := by
  refine ConI.of (by decide) rfl (Nat.le_of_ble_eq_true rfl) (fun κ => ?_)
  refine N_aload_n (pc := 0) dX4_init_0 rfl 0 rfl ?_
  refine N_objInit (pc := 1) wi_1022 wi_101 wi_102 (Nat.le_of_ble_eq_true rfl) (Nat.le_of_ble_eq_true rfl) dX4_init_1 ?_
  refine N_aload_n (pc := 4) dX4_init_4 rfl 0 rfl ?_
  refine N_bipush (v := (60 : Int32)) (pc := 5) dX4_init_5 (by decide) ?_
  refine N_newa (atype := .int) (ty := .int) (pc := 7) (j := 0) (N := 60) (a0 := (60, .inl (fun _ => 0))) wi_153 rfl rfl (fun _ _ h => h) (fun _ => rfl) (by decide +kernel) (by decide +kernel) (Nat.le_of_ble_eq_true rfl) (Nat.le_of_ble_eq_true rfl) (Nat.le_of_ble_eq_true rfl) (by decide) dX4_init_7 ?_
  refine N_putF (pc := 9) (v := .ref 54) (c := 53) (ci := 4) (T := TX4) (N := 22) (fs := [.int 0, .null, .int 0, .null, .null, .int 0, .null, .int 0, .null, .int 0, .int 0, .null, .null, .null, .int 0, .int 0, .int 0, .int 0, .int 0, .int 0, .int 0, .long 0]) ((gs_n (by decide)).trans hb) (by decide) (by decide) rfl lay_X4 tyX4 tyX4_ok nmX4 1 (by decide) wi_1024 rfl rfl rfl rfl rfl rfl (Nat.le_of_ble_eq_true rfl) dX4_init_9 ?_
  refine N_aload_n (pc := 12) dX4_init_12 rfl 0 rfl ?_
  refine N_bipush (v := (82 : Int32)) (pc := 13) dX4_init_13 (by decide) ?_
  refine N_newa (atype := .int) (ty := .int) (pc := 15) (j := 0) (N := 82) (a0 := (82, .inl (fun _ => 0))) wi_153 rfl rfl (fun _ _ h => h) (fun _ => rfl) (by decide +kernel) (by decide +kernel) (Nat.le_of_ble_eq_true rfl) (Nat.le_of_ble_eq_true rfl) (Nat.le_of_ble_eq_true rfl) (by decide) dX4_init_15 ?_
  refine N_putF (pc := 17) (v := .ref 55) (c := 53) (ci := 4) (T := TX4) (N := 22) (fs := [.int 0, .ref (adr E 54), .int 0, .null, .null, .int 0, .null, .int 0, .null, .int 0, .int 0, .null, .null, .null, .int 0, .int 0, .int 0, .int 0, .int 0, .int 0, .int 0, .long 0]) ((gs_n (by decide)).trans gs_s) (by decide) (by decide) rfl lay_X4 tyX4 tyX4_ok nmX4 3 (by decide) wi_1026 rfl rfl rfl rfl rfl rfl (Nat.le_of_ble_eq_true rfl) dX4_init_17 ?_
  refine N_aload_n (pc := 20) dX4_init_20 rfl 0 rfl ?_
  refine N_sipush (v := (410 : Int32)) (pc := 21) dX4_init_21 (by decide) ?_
  refine N_newa (atype := .int) (ty := .int) (pc := 24) (j := 0) (N := 410) (a0 := (410, .inl (fun _ => 0))) wi_153 rfl rfl (fun _ _ h => h) (fun _ => rfl) (by decide +kernel) (by decide +kernel) (Nat.le_of_ble_eq_true rfl) (Nat.le_of_ble_eq_true rfl) (Nat.le_of_ble_eq_true rfl) (by decide) dX4_init_24 ?_
  refine N_putF (pc := 26) (v := .ref 56) (c := 53) (ci := 4) (T := TX4) (N := 22) (fs := [.int 0, .ref (adr E 54), .int 0, .ref (adr E 55), .null, .int 0, .null, .int 0, .null, .int 0, .int 0, .null, .null, .null, .int 0, .int 0, .int 0, .int 0, .int 0, .int 0, .int 0, .long 0]) ((gs_n (by decide)).trans gs_s) (by decide) (by decide) rfl lay_X4 tyX4 tyX4_ok nmX4 4 (by decide) wi_1027 rfl rfl rfl rfl rfl rfl (Nat.le_of_ble_eq_true rfl) dX4_init_26 ?_
  refine N_aload_n (pc := 29) dX4_init_29 rfl 0 rfl ?_
  refine N_bipush (v := (82 : Int32)) (pc := 30) dX4_init_30 (by decide) ?_
  refine N_newa (atype := .int) (ty := .int) (pc := 32) (j := 0) (N := 82) (a0 := (82, .inl (fun _ => 0))) wi_153 rfl rfl (fun _ _ h => h) (fun _ => rfl) (by decide +kernel) (by decide +kernel) (Nat.le_of_ble_eq_true rfl) (Nat.le_of_ble_eq_true rfl) (Nat.le_of_ble_eq_true rfl) (by decide) dX4_init_32 ?_
  refine N_putF (pc := 34) (v := .ref 57) (c := 53) (ci := 4) (T := TX4) (N := 22) (fs := [.int 0, .ref (adr E 54), .int 0, .ref (adr E 55), .ref (adr E 56), .int 0, .null, .int 0, .null, .int 0, .int 0, .null, .null, .null, .int 0, .int 0, .int 0, .int 0, .int 0, .int 0, .int 0, .long 0]) ((gs_n (by decide)).trans gs_s) (by decide) (by decide) rfl lay_X4 tyX4 tyX4_ok nmX4 6 (by decide) wi_1029 rfl rfl rfl rfl rfl rfl (Nat.le_of_ble_eq_true rfl) dX4_init_34 ?_
  refine N_aload_n (pc := 37) dX4_init_37 rfl 0 rfl ?_
  refine N_bipush (v := (24 : Int32)) (pc := 38) dX4_init_38 (by decide) ?_
  refine N_newa (atype := .int) (ty := .int) (pc := 40) (j := 0) (N := 24) (a0 := (24, .inl (fun _ => 0))) wi_153 rfl rfl (fun _ _ h => h) (fun _ => rfl) (by decide +kernel) (by decide +kernel) (Nat.le_of_ble_eq_true rfl) (Nat.le_of_ble_eq_true rfl) (Nat.le_of_ble_eq_true rfl) (by decide) dX4_init_40 ?_
  refine N_putF (pc := 42) (v := .ref 58) (c := 53) (ci := 4) (T := TX4) (N := 22) (fs := [.int 0, .ref (adr E 54), .int 0, .ref (adr E 55), .ref (adr E 56), .int 0, .ref (adr E 57), .int 0, .null, .int 0, .int 0, .null, .null, .null, .int 0, .int 0, .int 0, .int 0, .int 0, .int 0, .int 0, .long 0]) ((gs_n (by decide)).trans gs_s) (by decide) (by decide) rfl lay_X4 tyX4 tyX4_ok nmX4 8 (by decide) wi_1031 rfl rfl rfl rfl rfl rfl (Nat.le_of_ble_eq_true rfl) dX4_init_42 ?_
  refine N_aload_n (pc := 45) dX4_init_45 rfl 0 rfl ?_
  refine N_sipush (v := (4096 : Int32)) (pc := 46) dX4_init_46 (by decide) ?_
  refine N_newa (atype := .int) (ty := .int) (pc := 49) (j := 0) (N := 4096) (a0 := (4096, .inl (fun _ => 0))) wi_153 rfl rfl (fun _ _ h => h) (fun _ => rfl) (by decide +kernel) (by decide +kernel) (Nat.le_of_ble_eq_true rfl) (Nat.le_of_ble_eq_true rfl) (Nat.le_of_ble_eq_true rfl) (by decide) dX4_init_49 ?_
  refine N_putF (pc := 51) (v := .ref 59) (c := 53) (ci := 4) (T := TX4) (N := 22) (fs := [.int 0, .ref (adr E 54), .int 0, .ref (adr E 55), .ref (adr E 56), .int 0, .ref (adr E 57), .int 0, .ref (adr E 58), .int 0, .int 0, .null, .null, .null, .int 0, .int 0, .int 0, .int 0, .int 0, .int 0, .int 0, .long 0]) ((gs_n (by decide)).trans gs_s) (by decide) (by decide) rfl lay_X4 tyX4 tyX4_ok nmX4 11 (by decide) wi_1034 rfl rfl rfl rfl rfl rfl (Nat.le_of_ble_eq_true rfl) dX4_init_51 ?_
  refine N_aload_n (pc := 54) dX4_init_54 rfl 0 rfl ?_
  refine N_sipush (v := (4096 : Int32)) (pc := 55) dX4_init_55 (by decide) ?_
  refine N_newa (atype := .int) (ty := .int) (pc := 58) (j := 0) (N := 4096) (a0 := (4096, .inl (fun _ => 0))) wi_153 rfl rfl (fun _ _ h => h) (fun _ => rfl) (by decide +kernel) (by decide +kernel) (Nat.le_of_ble_eq_true rfl) (Nat.le_of_ble_eq_true rfl) (Nat.le_of_ble_eq_true rfl) (by decide) dX4_init_58 ?_
  refine N_putF (pc := 60) (v := .ref 60) (c := 53) (ci := 4) (T := TX4) (N := 22) (fs := [.int 0, .ref (adr E 54), .int 0, .ref (adr E 55), .ref (adr E 56), .int 0, .ref (adr E 57), .int 0, .ref (adr E 58), .int 0, .int 0, .ref (adr E 59), .null, .null, .int 0, .int 0, .int 0, .int 0, .int 0, .int 0, .int 0, .long 0]) ((gs_n (by decide)).trans gs_s) (by decide) (by decide) rfl lay_X4 tyX4 tyX4_ok nmX4 12 (by decide) wi_1035 rfl rfl rfl rfl rfl rfl (Nat.le_of_ble_eq_true rfl) dX4_init_60 ?_
  refine N_aload_n (pc := 63) dX4_init_63 rfl 0 rfl ?_
  refine N_sipush (v := (4096 : Int32)) (pc := 64) dX4_init_64 (by decide) ?_
  refine N_newa (atype := .boolean) (ty := .boolean) (pc := 67) (j := 1) (N := 4096) (a0 := (4096, .inl (fun _ => 0))) wi_1090 rfl rfl (fun _ _ h => h) (fun _ => rfl) (by decide +kernel) (by decide +kernel) (Nat.le_of_ble_eq_true rfl) (Nat.le_of_ble_eq_true rfl) (Nat.le_of_ble_eq_true rfl) (by decide) dX4_init_67 ?_
  refine N_putF (pc := 69) (v := .ref 61) (c := 53) (ci := 4) (T := TX4) (N := 22) (fs := [.int 0, .ref (adr E 54), .int 0, .ref (adr E 55), .ref (adr E 56), .int 0, .ref (adr E 57), .int 0, .ref (adr E 58), .int 0, .int 0, .ref (adr E 59), .ref (adr E 60), .null, .int 0, .int 0, .int 0, .int 0, .int 0, .int 0, .int 0, .long 0]) ((gs_n (by decide)).trans gs_s) (by decide) (by decide) rfl lay_X4 tyX4 tyX4_ok nmX4 13 (by decide) wi_1036 rfl rfl rfl rfl rfl rfl (Nat.le_of_ble_eq_true rfl) dX4_init_69 ?_
  refine N_aload_n (pc := 72) dX4_init_72 rfl 0 rfl ?_
  refine N_get (pc := 73) (v := .ref 55) (c := 53) (ci := 4) (T := TX4) (N := 22) (fs := [.int 0, .ref (adr E 54), .int 0, .ref (adr E 55), .ref (adr E 56), .int 0, .ref (adr E 57), .int 0, .ref (adr E 58), .int 0, .int 0, .ref (adr E 59), .ref (adr E 60), .ref (adr E 61), .int 0, .int 0, .int 0, .int 0, .int 0, .int 0, .int 0, .long 0]) gs_s (by decide) rfl lay_X4 3 (by decide) wi_1026 rfl rfl dX4_init_73 ?_
  refine N_bipush (v := (81 : Int32)) (pc := 76) dX4_init_76 (by decide) ?_
  refine N_iconst (v := (-1 : Int32)) (pc := 78) dX4_init_78 (by decide) ?_
  refine N_iast (pc := 79) (c := 55) (N := 82) (i := (81 : Int32)) (x := (-1 : Int32)) (r := fun _ => 0) rfl (by decide) (by decide) (by unfold vp_in; decide) dX4_init_79 ?_
  refine N_return (pc := 80) dX4_init_80 rfl (fun i hi => ?_) rfl rfl rfl
  rcases Nat.lt_or_ge i 53 with h | h
  · refine (gs_n (show i ≠ 55 by omega)).trans <| (gs_n (show i ≠ 53 by omega)).trans <| (gs_n (show i ≠ 61 by omega)).trans <| (gs_n (show i ≠ 53 by omega)).trans <| (gs_n (show i ≠ 60 by omega)).trans <| (gs_n (show i ≠ 53 by omega)).trans <| (gs_n (show i ≠ 59 by omega)).trans <| (gs_n (show i ≠ 53 by omega)).trans <| (gs_n (show i ≠ 58 by omega)).trans <| (gs_n (show i ≠ 53 by omega)).trans <| (gs_n (show i ≠ 57 by omega)).trans <| (gs_n (show i ≠ 53 by omega)).trans <| (gs_n (show i ≠ 56 by omega)).trans <| (gs_n (show i ≠ 53 by omega)).trans <| (gs_n (show i ≠ 55 by omega)).trans <| (gs_n (show i ≠ 53 by omega)).trans <| (gs_n (show i ≠ 54 by omega)).trans <| Eq.trans rfl (gB_lo h).symm
  · have h9 : i = 53 ∨ i = 54 ∨ i = 55 ∨ i = 56 ∨ i = 57 ∨ i = 58 ∨ i = 59 ∨ i = 60 ∨ i = 61 := by omega
    rcases h9 with rfl | rfl | rfl | rfl | rfl | rfl | rfl | rfl | rfl <;> rfl

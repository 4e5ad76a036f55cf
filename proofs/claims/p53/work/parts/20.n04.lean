/-! ===== the constructors with great arrays ===== -/
set_option maxRecDepth 20000 in
theorem con_X0_44 {E : En} {g : Nat → va_E} (hb : g 44 = .inr (0, [.null, .null, .null, .null, .null, .null, .int 0, .int 0, .int 0, .int 0, .int 0, .int 0])) : ConI E mi_X0_init 44 g (gB E g 44) 45 51 := by
  refine ConI.of (by decide) rfl (Nat.le_of_ble_eq_true rfl) (fun κ => ?_)
  refine N_aload_n (pc := 0) dX0_init_0 rfl 0 rfl ?_
  refine N_objInit (pc := 1) wi_98 wi_39 wi_40 (Nat.le_of_ble_eq_true rfl) (Nat.le_of_ble_eq_true rfl) dX0_init_1 ?_
  refine N_aload_n (pc := 4) dX0_init_4 rfl 0 rfl ?_
  refine N_bipush (v := (6 : Int32)) (pc := 5) dX0_init_5 (by decide) ?_
  refine N_newa (atype := .int) (ty := .int) (pc := 7) (j := 0) (N := 6) (a0 := (6, .inl (fun _ => 0))) wi_91 rfl rfl (fun _ _ h => h) (fun _ => rfl) (by decide +kernel) (by decide +kernel) (Nat.le_of_ble_eq_true rfl) (Nat.le_of_ble_eq_true rfl) (Nat.le_of_ble_eq_true rfl) (by decide) dX0_init_7 ?_
  refine N_putF (pc := 9) (v := .ref 45) (c := 44) (ci := 0) (T := TX0) (N := 12) (fs := [.null, .null, .null, .null, .null, .null, .int 0, .int 0, .int 0, .int 0, .int 0, .int 0]) ((gs_n (by decide)).trans hb) (by decide) (by decide) rfl lay_X0 tyX0 tyX0_ok nmX0 0 (by decide) wi_99 rfl rfl rfl rfl rfl rfl (Nat.le_of_ble_eq_true rfl) dX0_init_9 ?_
  refine N_aload_n (pc := 12) dX0_init_12 rfl 0 rfl ?_
  refine N_sipush (v := (4096 : Int32)) (pc := 13) dX0_init_13 (by decide) ?_
  refine N_newa (atype := .int) (ty := .int) (pc := 16) (j := 0) (N := 4096) (a0 := (4096, .inl (fun _ => 0))) wi_91 rfl rfl (fun _ _ h => h) (fun _ => rfl) (by decide +kernel) (by decide +kernel) (Nat.le_of_ble_eq_true rfl) (Nat.le_of_ble_eq_true rfl) (Nat.le_of_ble_eq_true rfl) (by decide) dX0_init_16 ?_
  refine N_putF (pc := 18) (v := .ref 46) (c := 44) (ci := 0) (T := TX0) (N := 12) (fs := [.ref (adr E 45), .null, .null, .null, .null, .null, .int 0, .int 0, .int 0, .int 0, .int 0, .int 0]) ((gs_n (by decide)).trans gs_s) (by decide) (by decide) rfl lay_X0 tyX0 tyX0_ok nmX0 1 (by decide) wi_100 rfl rfl rfl rfl rfl rfl (Nat.le_of_ble_eq_true rfl) dX0_init_18 ?_
  refine N_aload_n (pc := 21) dX0_init_21 rfl 0 rfl ?_
  refine N_sipush (v := (4096 : Int32)) (pc := 22) dX0_init_22 (by decide) ?_
  refine N_newa (atype := .int) (ty := .int) (pc := 25) (j := 0) (N := 4096) (a0 := (4096, .inl (fun _ => 0))) wi_91 rfl rfl (fun _ _ h => h) (fun _ => rfl) (by decide +kernel) (by decide +kernel) (Nat.le_of_ble_eq_true rfl) (Nat.le_of_ble_eq_true rfl) (Nat.le_of_ble_eq_true rfl) (by decide) dX0_init_25 ?_
  refine N_putF (pc := 27) (v := .ref 47) (c := 44) (ci := 0) (T := TX0) (N := 12) (fs := [.ref (adr E 45), .ref (adr E 46), .null, .null, .null, .null, .int 0, .int 0, .int 0, .int 0, .int 0, .int 0]) ((gs_n (by decide)).trans gs_s) (by decide) (by decide) rfl lay_X0 tyX0 tyX0_ok nmX0 2 (by decide) wi_101 rfl rfl rfl rfl rfl rfl (Nat.le_of_ble_eq_true rfl) dX0_init_27 ?_
  refine N_aload_n (pc := 30) dX0_init_30 rfl 0 rfl ?_
  refine N_sipush (v := (4096 : Int32)) (pc := 31) dX0_init_31 (by decide) ?_
  refine N_newa (atype := .int) (ty := .int) (pc := 34) (j := 0) (N := 4096) (a0 := (4096, .inl (fun _ => 0))) wi_91 rfl rfl (fun _ _ h => h) (fun _ => rfl) (by decide +kernel) (by decide +kernel) (Nat.le_of_ble_eq_true rfl) (Nat.le_of_ble_eq_true rfl) (Nat.le_of_ble_eq_true rfl) (by decide) dX0_init_34 ?_
  refine N_putF (pc := 36) (v := .ref 48) (c := 44) (ci := 0) (T := TX0) (N := 12) (fs := [.ref (adr E 45), .ref (adr E 46), .ref (adr E 47), .null, .null, .null, .int 0, .int 0, .int 0, .int 0, .int 0, .int 0]) ((gs_n (by decide)).trans gs_s) (by decide) (by decide) rfl lay_X0 tyX0 tyX0_ok nmX0 3 (by decide) wi_102 rfl rfl rfl rfl rfl rfl (Nat.le_of_ble_eq_true rfl) dX0_init_36 ?_
  refine N_aload_n (pc := 39) dX0_init_39 rfl 0 rfl ?_
  refine N_sipush (v := (16384 : Int32)) (pc := 40) dX0_init_40 (by decide) ?_
  refine N_newa (atype := .int) (ty := .int) (pc := 43) (j := 0) (N := 16384) (a0 := (16384, .inl (fun _ => 0))) wi_91 rfl rfl (fun _ _ h => h) (fun _ => rfl) (by decide +kernel) (by decide +kernel) (Nat.le_of_ble_eq_true rfl) (Nat.le_of_ble_eq_true rfl) (Nat.le_of_ble_eq_true rfl) (by decide) dX0_init_43 ?_
  refine N_putF (pc := 45) (v := .ref 49) (c := 44) (ci := 0) (T := TX0) (N := 12) (fs := [.ref (adr E 45), .ref (adr E 46), .ref (adr E 47), .ref (adr E 48), .null, .null, .int 0, .int 0, .int 0, .int 0, .int 0, .int 0]) ((gs_n (by decide)).trans gs_s) (by decide) (by decide) rfl lay_X0 tyX0 tyX0_ok nmX0 4 (by decide) wi_103 rfl rfl rfl rfl rfl rfl (Nat.le_of_ble_eq_true rfl) dX0_init_45 ?_
  refine N_aload_n (pc := 48) dX0_init_48 rfl 0 rfl ?_
  refine N_iconst (v := (4 : Int32)) (pc := 49) dX0_init_49 (by decide) ?_
  refine N_newa (atype := .int) (ty := .int) (pc := 50) (j := 0) (N := 4) (a0 := (4, .inl (fun _ => 0))) wi_91 rfl rfl (fun _ _ h => h) (fun _ => rfl) (by decide +kernel) (by decide +kernel) (Nat.le_of_ble_eq_true rfl) (Nat.le_of_ble_eq_true rfl) (Nat.le_of_ble_eq_true rfl) (by decide) dX0_init_50 ?_
  refine N_putF (pc := 52) (v := .ref 50) (c := 44) (ci := 0) (T := TX0) (N := 12) (fs := [.ref (adr E 45), .ref (adr E 46), .ref (adr E 47), .ref (adr E 48), .ref (adr E 49), .null, .int 0, .int 0, .int 0, .int 0, .int 0, .int 0]) ((gs_n (by decide)).trans gs_s) (by decide) (by decide) rfl lay_X0 tyX0 tyX0_ok nmX0 5 (by decide) wi_104 rfl rfl rfl rfl rfl rfl (Nat.le_of_ble_eq_true rfl) dX0_init_52 ?_
  refine N_return (pc := 55) dX0_init_55 rfl (fun i hi => ?_) rfl rfl rfl
  rcases Nat.lt_or_ge i 44 with h | h
  · refine (gs_n (show i ≠ 44 by omega)).trans <| (gs_n (show i ≠ 50 by omega)).trans <| (gs_n (show i ≠ 44 by omega)).trans <| (gs_n (show i ≠ 49 by omega)).trans <| (gs_n (show i ≠ 44 by omega)).trans <| (gs_n (show i ≠ 48 by omega)).trans <| (gs_n (show i ≠ 44 by omega)).trans <| (gs_n (show i ≠ 47 by omega)).trans <| (gs_n (show i ≠ 44 by omega)).trans <| (gs_n (show i ≠ 46 by omega)).trans <| (gs_n (show i ≠ 44 by omega)).trans <| (gs_n (show i ≠ 45 by omega)).trans <| Eq.trans rfl (gB_lo h).symm
  · have h9 : i = 44 ∨ i = 45 ∨ i = 46 ∨ i = 47 ∨ i = 48 ∨ i = 49 ∨ i = 50 := by omega
    rcases h9 with rfl | rfl | rfl | rfl | rfl | rfl | rfl <;> rfl

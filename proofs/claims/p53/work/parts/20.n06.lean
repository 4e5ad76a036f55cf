/-! ===== CarTangos's constructor, walked ===== -/
set_option maxRecDepth 20000 in
theorem con_X3_0 {E : En} {g : Nat → va_E} (h0 : g 0 = .inr (3, [.null, .null, .null, .null, .null, .int 0, .int 0])) : ConI E mi_X3_init 0 g (jc E W0) 1 53 := by
  refine ConI.of (by decide) rfl (Nat.le_of_ble_eq_true rfl) (fun κ => ?_)
  refine N_cong (g' := nf E (.inr (3, [.null, .null, .null, .null, .null, .int 0, .int 0])) (Aq E 0)) (fun i hi => ?_) ?_
  · rw [show i = 0 by omega, h0]; exact nf_0.symm
  refine N_aload_n (pc := 0) dX3_init_0 rfl 0 rfl ?_
  refine N_objInit (pc := 1) wi_38 wi_39 wi_40 (Nat.le_of_ble_eq_true rfl) (Nat.le_of_ble_eq_true rfl) dX3_init_1 ?_
  refine N_aload_n (pc := 4) dX3_init_4 rfl 0 rfl ?_
  refine N_new (pc := 5) (ci := 1) (C := RX1) (T := TX1) (N := 10) (fs := [.null, .null, .null, .null, .null, .int 0, .int 0, .int 0, .int 0, .int 0]) lay_X1 tyX1 tyX1_ok wi_41 wi_42 wi_21 rfl dv_X1 (Nat.le_of_ble_eq_true rfl) (Nat.le_of_ble_eq_true rfl) (by decide) dX3_init_5 ?_
  refine N_dup (pc := 8) dX3_init_8 rfl ?_
  refine N_initN (pc := 9) (gi := mi_X1_init) (host := "CarTangos") mn_X1 wi_43 (con_X1_1 gs_s) (by decide) (by decide) rfl ⟨⟨(Nat.le_of_ble_eq_true rfl), (Nat.le_of_ble_eq_true rfl)⟩, (Nat.le_of_ble_eq_true rfl), (Nat.le_of_ble_eq_true rfl)⟩ (Nat.le_of_ble_eq_true rfl) dX3_init_9 ?_
  refine N_cong (g' := nf E (.inr (3, [.null, .null, .null, .null, .null, .int 0, .int 0])) (Aq E 0)) (fun i hi => nf_obj (by decide) (by omega)) ?_
  refine N_putF (pc := 12) (v := .ref 1) (c := 0) (ci := 3) (T := TX3) (N := 7) (fs := [.null, .null, .null, .null, .null, .int 0, .int 0]) nf_0 (by decide) (by decide) rfl lay_X3 tyX3 tyX3_ok nmX3 0 (by decide) wi_154 rfl rfl rfl rfl rfl rfl (Nat.le_of_ble_eq_true rfl) dX3_init_12 ?_
  refine N_cong (g' := nf E (.inr (3, [.ref (adr E 1), .null, .null, .null, .null, .int 0, .int 0])) (Aq E 0)) (fun i hi => nf_put0) ?_
  refine N_aload_n (pc := 15) dX3_init_15 rfl 0 rfl ?_
  refine N_new (pc := 16) (ci := 1) (C := RX1) (T := TX1) (N := 10) (fs := [.null, .null, .null, .null, .null, .int 0, .int 0, .int 0, .int 0, .int 0]) lay_X1 tyX1 tyX1_ok wi_41 wi_42 wi_21 rfl dv_X1 (Nat.le_of_ble_eq_true rfl) (Nat.le_of_ble_eq_true rfl) (by decide) dX3_init_16 ?_
  refine N_dup (pc := 19) dX3_init_19 rfl ?_
  refine N_initN (pc := 20) (gi := mi_X1_init) (host := "CarTangos") mn_X1 wi_43 (con_X1_7 gs_s) (by decide) (by decide) rfl ⟨⟨(Nat.le_of_ble_eq_true rfl), (Nat.le_of_ble_eq_true rfl)⟩, (Nat.le_of_ble_eq_true rfl), (Nat.le_of_ble_eq_true rfl)⟩ (Nat.le_of_ble_eq_true rfl) dX3_init_20 ?_
  refine N_cong (g' := nf E (.inr (3, [.ref (adr E 1), .null, .null, .null, .null, .int 0, .int 0])) (Aq E 0)) (fun i hi => nf_obj (by decide) (by omega)) ?_
  refine N_putF (pc := 23) (v := .ref 7) (c := 0) (ci := 3) (T := TX3) (N := 7) (fs := [.ref (adr E 1), .null, .null, .null, .null, .int 0, .int 0]) nf_0 (by decide) (by decide) rfl lay_X3 tyX3 tyX3_ok nmX3 1 (by decide) wi_155 rfl rfl rfl rfl rfl rfl (Nat.le_of_ble_eq_true rfl) dX3_init_23 ?_
  refine N_cong (g' := nf E (.inr (3, [.ref (adr E 1), .ref (adr E 7), .null, .null, .null, .int 0, .int 0])) (Aq E 0)) (fun i hi => nf_put0) ?_
  refine N_aload_n (pc := 26) dX3_init_26 rfl 0 rfl ?_
  refine N_iconst (v := (5 : Int32)) (pc := 27) dX3_init_27 (by decide) ?_
  refine N_newq (pc := 28) (N := 5) wi_41 (by decide +kernel) (by decide +kernel) (Nat.le_of_ble_eq_true rfl) (Nat.le_of_ble_eq_true rfl) (Nat.le_of_ble_eq_true rfl) (by decide) dX3_init_28 ?_
  refine N_cong (g' := nf E (.inr (3, [.ref (adr E 1), .ref (adr E 7), .null, .null, .null, .int 0, .int 0])) (Aq E 0)) (fun i hi => nf_new13) ?_
  refine N_putF (pc := 31) (v := .ref 13) (c := 0) (ci := 3) (T := TX3) (N := 7) (fs := [.ref (adr E 1), .ref (adr E 7), .null, .null, .null, .int 0, .int 0]) nf_0 (by decide) (by decide) rfl lay_X3 tyX3 tyX3_ok nmX3 2 (by decide) wi_156 rfl rfl rfl rfl rfl rfl (Nat.le_of_ble_eq_true rfl) dX3_init_31 ?_
  refine N_cong (g' := nf E (.inr (3, [.ref (adr E 1), .ref (adr E 7), .ref (adr E 13), .null, .null, .int 0, .int 0])) (Aq E 0)) (fun i hi => nf_put0) ?_
  refine N_iconst (v := (0 : Int32)) (pc := 34) dX3_init_34 (by decide) ?_
  refine N_istore_n (pc := 35) (L' := [(0, .ref 0), (1, .int 0)]) dX3_init_35 rfl (by decide) [1, 0] rfl ?_
  refine N_iload_n (pc := 36) dX3_init_36 rfl 1 rfl ?_
  refine N_iconst (v := (5 : Int32)) (pc := 37) dX3_init_37 (by decide) ?_
  refine N_icmp_ge (pc := 38) (tgt := 60) dX3_init_38 rfl (fun h => absurd h (by decide)) (fun _ => ?_)
  refine N_aload_n (pc := 41) dX3_init_41 rfl 0 rfl ?_
  refine N_get (pc := 42) (v := .ref 13) (c := 0) (ci := 3) (T := TX3) (N := 7) (fs := [.ref (adr E 1), .ref (adr E 7), .ref (adr E 13), .null, .null, .int 0, .int 0]) nf_0 (by decide) rfl lay_X3 2 (by decide) wi_156 rfl rfl dX3_init_42 ?_
  refine N_iload_n (pc := 45) dX3_init_45 rfl 1 rfl ?_
  refine N_new (pc := 46) (ci := 1) (C := RX1) (T := TX1) (N := 10) (fs := [.null, .null, .null, .null, .null, .int 0, .int 0, .int 0, .int 0, .int 0]) lay_X1 tyX1 tyX1_ok wi_41 wi_42 wi_21 rfl dv_X1 (Nat.le_of_ble_eq_true rfl) (Nat.le_of_ble_eq_true rfl) (by decide) dX3_init_46 ?_
  refine N_dup (pc := 49) dX3_init_49 rfl ?_
  refine N_initN (pc := 50) (gi := mi_X1_init) (host := "CarTangos") mn_X1 wi_43 (con_X1_14 gs_s) (by decide) (by decide) rfl ⟨⟨(Nat.le_of_ble_eq_true rfl), (Nat.le_of_ble_eq_true rfl)⟩, (Nat.le_of_ble_eq_true rfl), (Nat.le_of_ble_eq_true rfl)⟩ (Nat.le_of_ble_eq_true rfl) dX3_init_50 ?_
  refine N_cong (g' := nf E (.inr (3, [.ref (adr E 1), .ref (adr E 7), .ref (adr E 13), .null, .null, .int 0, .int 0])) (Aq E 0)) (fun i hi => nf_obj (by decide) (by omega)) ?_
  refine N_aast (pc := 53) (N := 5) (i := (0 : Int32)) (r := fun j => if j < 0 then some (adr E (14 + 6 * j)) else none) nf_13 (nf_o (by decide) (by decide)) (by decide) (by decide) (by decide) (by unfold vp_in; decide) dX3_init_53 ?_
  refine N_cong (g' := nf E (.inr (3, [.ref (adr E 1), .ref (adr E 7), .ref (adr E 13), .null, .null, .int 0, .int 0])) (Aq E 1)) (fun i hi => nf_put13 0) ?_
  refine N_iinc (pc := 54) (v := (1 : Int32)) (L' := [(0, .ref 0), (1, .int 1)]) dX3_init_54 1 rfl (by decide) (by decide) [1, 0] rfl ?_
  refine N_goto (pc := 57) (tgt := 36) dX3_init_57 rfl ?_
  refine N_iload_n (pc := 36) dX3_init_36 rfl 1 rfl ?_
  refine N_iconst (v := (5 : Int32)) (pc := 37) dX3_init_37 (by decide) ?_
  refine N_icmp_ge (pc := 38) (tgt := 60) dX3_init_38 rfl (fun h => absurd h (by decide)) (fun _ => ?_)
  refine N_aload_n (pc := 41) dX3_init_41 rfl 0 rfl ?_
  refine N_get (pc := 42) (v := .ref 13) (c := 0) (ci := 3) (T := TX3) (N := 7) (fs := [.ref (adr E 1), .ref (adr E 7), .ref (adr E 13), .null, .null, .int 0, .int 0]) nf_0 (by decide) rfl lay_X3 2 (by decide) wi_156 rfl rfl dX3_init_42 ?_
  refine N_iload_n (pc := 45) dX3_init_45 rfl 1 rfl ?_
  refine N_new (pc := 46) (ci := 1) (C := RX1) (T := TX1) (N := 10) (fs := [.null, .null, .null, .null, .null, .int 0, .int 0, .int 0, .int 0, .int 0]) lay_X1 tyX1 tyX1_ok wi_41 wi_42 wi_21 rfl dv_X1 (Nat.le_of_ble_eq_true rfl) (Nat.le_of_ble_eq_true rfl) (by decide) dX3_init_46 ?_
  refine N_dup (pc := 49) dX3_init_49 rfl ?_
  refine N_initN (pc := 50) (gi := mi_X1_init) (host := "CarTangos") mn_X1 wi_43 (con_X1_20 gs_s) (by decide) (by decide) rfl ⟨⟨(Nat.le_of_ble_eq_true rfl), (Nat.le_of_ble_eq_true rfl)⟩, (Nat.le_of_ble_eq_true rfl), (Nat.le_of_ble_eq_true rfl)⟩ (Nat.le_of_ble_eq_true rfl) dX3_init_50 ?_
  refine N_cong (g' := nf E (.inr (3, [.ref (adr E 1), .ref (adr E 7), .ref (adr E 13), .null, .null, .int 0, .int 0])) (Aq E 1)) (fun i hi => nf_obj (by decide) (by omega)) ?_
  refine N_aast (pc := 53) (N := 5) (i := (1 : Int32)) (r := fun j => if j < 1 then some (adr E (14 + 6 * j)) else none) nf_13 (nf_o (by decide) (by decide)) (by decide) (by decide) (by decide) (by unfold vp_in; decide) dX3_init_53 ?_
  refine N_cong (g' := nf E (.inr (3, [.ref (adr E 1), .ref (adr E 7), .ref (adr E 13), .null, .null, .int 0, .int 0])) (Aq E 2)) (fun i hi => nf_put13 1) ?_
  refine N_iinc (pc := 54) (v := (2 : Int32)) (L' := [(0, .ref 0), (1, .int 2)]) dX3_init_54 1 rfl (by decide) (by decide) [1, 0] rfl ?_
  refine N_goto (pc := 57) (tgt := 36) dX3_init_57 rfl ?_
  refine N_iload_n (pc := 36) dX3_init_36 rfl 1 rfl ?_
  refine N_iconst (v := (5 : Int32)) (pc := 37) dX3_init_37 (by decide) ?_
  refine N_icmp_ge (pc := 38) (tgt := 60) dX3_init_38 rfl (fun h => absurd h (by decide)) (fun _ => ?_)
  refine N_aload_n (pc := 41) dX3_init_41 rfl 0 rfl ?_
  refine N_get (pc := 42) (v := .ref 13) (c := 0) (ci := 3) (T := TX3) (N := 7) (fs := [.ref (adr E 1), .ref (adr E 7), .ref (adr E 13), .null, .null, .int 0, .int 0]) nf_0 (by decide) rfl lay_X3 2 (by decide) wi_156 rfl rfl dX3_init_42 ?_
  refine N_iload_n (pc := 45) dX3_init_45 rfl 1 rfl ?_
  refine N_new (pc := 46) (ci := 1) (C := RX1) (T := TX1) (N := 10) (fs := [.null, .null, .null, .null, .null, .int 0, .int 0, .int 0, .int 0, .int 0]) lay_X1 tyX1 tyX1_ok wi_41 wi_42 wi_21 rfl dv_X1 (Nat.le_of_ble_eq_true rfl) (Nat.le_of_ble_eq_true rfl) (by decide) dX3_init_46 ?_
  refine N_dup (pc := 49) dX3_init_49 rfl ?_
  refine N_initN (pc := 50) (gi := mi_X1_init) (host := "CarTangos") mn_X1 wi_43 (con_X1_26 gs_s) (by decide) (by decide) rfl ⟨⟨(Nat.le_of_ble_eq_true rfl), (Nat.le_of_ble_eq_true rfl)⟩, (Nat.le_of_ble_eq_true rfl), (Nat.le_of_ble_eq_true rfl)⟩ (Nat.le_of_ble_eq_true rfl) dX3_init_50 ?_
  refine N_cong (g' := nf E (.inr (3, [.ref (adr E 1), .ref (adr E 7), .ref (adr E 13), .null, .null, .int 0, .int 0])) (Aq E 2)) (fun i hi => nf_obj (by decide) (by omega)) ?_
  refine N_aast (pc := 53) (N := 5) (i := (2 : Int32)) (r := fun j => if j < 2 then some (adr E (14 + 6 * j)) else none) nf_13 (nf_o (by decide) (by decide)) (by decide) (by decide) (by decide) (by unfold vp_in; decide) dX3_init_53 ?_
  refine N_cong (g' := nf E (.inr (3, [.ref (adr E 1), .ref (adr E 7), .ref (adr E 13), .null, .null, .int 0, .int 0])) (Aq E 3)) (fun i hi => nf_put13 2) ?_
  refine N_iinc (pc := 54) (v := (3 : Int32)) (L' := [(0, .ref 0), (1, .int 3)]) dX3_init_54 1 rfl (by decide) (by decide) [1, 0] rfl ?_
  refine N_goto (pc := 57) (tgt := 36) dX3_init_57 rfl ?_
  refine N_iload_n (pc := 36) dX3_init_36 rfl 1 rfl ?_
  refine N_iconst (v := (5 : Int32)) (pc := 37) dX3_init_37 (by decide) ?_
  refine N_icmp_ge (pc := 38) (tgt := 60) dX3_init_38 rfl (fun h => absurd h (by decide)) (fun _ => ?_)
  refine N_aload_n (pc := 41) dX3_init_41 rfl 0 rfl ?_
  refine N_get (pc := 42) (v := .ref 13) (c := 0) (ci := 3) (T := TX3) (N := 7) (fs := [.ref (adr E 1), .ref (adr E 7), .ref (adr E 13), .null, .null, .int 0, .int 0]) nf_0 (by decide) rfl lay_X3 2 (by decide) wi_156 rfl rfl dX3_init_42 ?_
  refine N_iload_n (pc := 45) dX3_init_45 rfl 1 rfl ?_
  refine N_new (pc := 46) (ci := 1) (C := RX1) (T := TX1) (N := 10) (fs := [.null, .null, .null, .null, .null, .int 0, .int 0, .int 0, .int 0, .int 0]) lay_X1 tyX1 tyX1_ok wi_41 wi_42 wi_21 rfl dv_X1 (Nat.le_of_ble_eq_true rfl) (Nat.le_of_ble_eq_true rfl) (by decide) dX3_init_46 ?_
  refine N_dup (pc := 49) dX3_init_49 rfl ?_
  refine N_initN (pc := 50) (gi := mi_X1_init) (host := "CarTangos") mn_X1 wi_43 (con_X1_32 gs_s) (by decide) (by decide) rfl ⟨⟨(Nat.le_of_ble_eq_true rfl), (Nat.le_of_ble_eq_true rfl)⟩, (Nat.le_of_ble_eq_true rfl), (Nat.le_of_ble_eq_true rfl)⟩ (Nat.le_of_ble_eq_true rfl) dX3_init_50 ?_
  refine N_cong (g' := nf E (.inr (3, [.ref (adr E 1), .ref (adr E 7), .ref (adr E 13), .null, .null, .int 0, .int 0])) (Aq E 3)) (fun i hi => nf_obj (by decide) (by omega)) ?_
  refine N_aast (pc := 53) (N := 5) (i := (3 : Int32)) (r := fun j => if j < 3 then some (adr E (14 + 6 * j)) else none) nf_13 (nf_o (by decide) (by decide)) (by decide) (by decide) (by decide) (by unfold vp_in; decide) dX3_init_53 ?_
  refine N_cong (g' := nf E (.inr (3, [.ref (adr E 1), .ref (adr E 7), .ref (adr E 13), .null, .null, .int 0, .int 0])) (Aq E 4)) (fun i hi => nf_put13 3) ?_
  refine N_iinc (pc := 54) (v := (4 : Int32)) (L' := [(0, .ref 0), (1, .int 4)]) dX3_init_54 1 rfl (by decide) (by decide) [1, 0] rfl ?_
  refine N_goto (pc := 57) (tgt := 36) dX3_init_57 rfl ?_
  refine N_iload_n (pc := 36) dX3_init_36 rfl 1 rfl ?_
  refine N_iconst (v := (5 : Int32)) (pc := 37) dX3_init_37 (by decide) ?_
  refine N_icmp_ge (pc := 38) (tgt := 60) dX3_init_38 rfl (fun h => absurd h (by decide)) (fun _ => ?_)
  refine N_aload_n (pc := 41) dX3_init_41 rfl 0 rfl ?_
  refine N_get (pc := 42) (v := .ref 13) (c := 0) (ci := 3) (T := TX3) (N := 7) (fs := [.ref (adr E 1), .ref (adr E 7), .ref (adr E 13), .null, .null, .int 0, .int 0]) nf_0 (by decide) rfl lay_X3 2 (by decide) wi_156 rfl rfl dX3_init_42 ?_
  refine N_iload_n (pc := 45) dX3_init_45 rfl 1 rfl ?_
  refine N_new (pc := 46) (ci := 1) (C := RX1) (T := TX1) (N := 10) (fs := [.null, .null, .null, .null, .null, .int 0, .int 0, .int 0, .int 0, .int 0]) lay_X1 tyX1 tyX1_ok wi_41 wi_42 wi_21 rfl dv_X1 (Nat.le_of_ble_eq_true rfl) (Nat.le_of_ble_eq_true rfl) (by decide) dX3_init_46 ?_
  refine N_dup (pc := 49) dX3_init_49 rfl ?_
  refine N_initN (pc := 50) (gi := mi_X1_init) (host := "CarTangos") mn_X1 wi_43 (con_X1_38 gs_s) (by decide) (by decide) rfl ⟨⟨(Nat.le_of_ble_eq_true rfl), (Nat.le_of_ble_eq_true rfl)⟩, (Nat.le_of_ble_eq_true rfl), (Nat.le_of_ble_eq_true rfl)⟩ (Nat.le_of_ble_eq_true rfl) dX3_init_50 ?_
  refine N_cong (g' := nf E (.inr (3, [.ref (adr E 1), .ref (adr E 7), .ref (adr E 13), .null, .null, .int 0, .int 0])) (Aq E 4)) (fun i hi => nf_obj (by decide) (by omega)) ?_
  refine N_aast (pc := 53) (N := 5) (i := (4 : Int32)) (r := fun j => if j < 4 then some (adr E (14 + 6 * j)) else none) nf_13 (nf_o (by decide) (by decide)) (by decide) (by decide) (by decide) (by unfold vp_in; decide) dX3_init_53 ?_
  refine N_cong (g' := nf E (.inr (3, [.ref (adr E 1), .ref (adr E 7), .ref (adr E 13), .null, .null, .int 0, .int 0])) (Aq E 5)) (fun i hi => nf_put13 4) ?_
  refine N_iinc (pc := 54) (v := (5 : Int32)) (L' := [(0, .ref 0), (1, .int 5)]) dX3_init_54 1 rfl (by decide) (by decide) [1, 0] rfl ?_
  refine N_goto (pc := 57) (tgt := 36) dX3_init_57 rfl ?_
  refine N_iload_n (pc := 36) dX3_init_36 rfl 1 rfl ?_
  refine N_iconst (v := (5 : Int32)) (pc := 37) dX3_init_37 (by decide) ?_
  refine N_icmp_ge (pc := 38) (tgt := 60) dX3_init_38 rfl (fun _ => ?_) (fun h => absurd h (by decide))
  refine N_aload_n (pc := 60) dX3_init_60 rfl 0 rfl ?_
  refine N_new (pc := 61) (ci := 0) (C := RX0) (T := TX0) (N := 12) (fs := [.null, .null, .null, .null, .null, .null, .int 0, .int 0, .int 0, .int 0, .int 0, .int 0]) lay_X0 tyX0 tyX0_ok wi_93 wi_94 wi_22 rfl dv_X0 (Nat.le_of_ble_eq_true rfl) (Nat.le_of_ble_eq_true rfl) (by decide) dX3_init_61 ?_
  refine N_dup (pc := 64) dX3_init_64 rfl ?_
  refine N_initN (pc := 65) (gi := mi_X0_init) (host := "CarTangos") mn_X0 wi_95 (con_X0_44 gs_s) (by decide) (by decide) rfl ⟨⟨(Nat.le_of_ble_eq_true rfl), (Nat.le_of_ble_eq_true rfl)⟩, (Nat.le_of_ble_eq_true rfl), (Nat.le_of_ble_eq_true rfl)⟩ (Nat.le_of_ble_eq_true rfl) dX3_init_65 ?_
  refine N_cong (g' := nf E (.inr (3, [.ref (adr E 1), .ref (adr E 7), .ref (adr E 13), .null, .null, .int 0, .int 0])) (Aq E 5)) (fun i hi => nf_obj (by decide) (by omega)) ?_
  refine N_putF (pc := 68) (v := .ref 44) (c := 0) (ci := 3) (T := TX3) (N := 7) (fs := [.ref (adr E 1), .ref (adr E 7), .ref (adr E 13), .null, .null, .int 0, .int 0]) nf_0 (by decide) (by decide) rfl lay_X3 tyX3 tyX3_ok nmX3 3 (by decide) wi_157 rfl rfl rfl rfl rfl rfl (Nat.le_of_ble_eq_true rfl) dX3_init_68 ?_
  refine N_cong (g' := nf E (.inr (3, [.ref (adr E 1), .ref (adr E 7), .ref (adr E 13), .ref (adr E 44), .null, .int 0, .int 0])) (Aq E 5)) (fun i hi => nf_put0) ?_
  refine N_aload_n (pc := 71) dX3_init_71 rfl 0 rfl ?_
  refine N_new (pc := 72) (ci := 2) (C := RX2) (T := TX2) (N := 2) (fs := [.null, .int 0]) lay_X2 tyX2 tyX2_ok wi_140 wi_141 wi_23 rfl dv_X2 (Nat.le_of_ble_eq_true rfl) (Nat.le_of_ble_eq_true rfl) (by decide) dX3_init_72 ?_
  refine N_dup (pc := 75) dX3_init_75 rfl ?_
  refine N_initN (pc := 76) (gi := mi_X2_init) (host := "CarTangos") mn_X2 wi_142 (con_X2_51 gs_s) (by decide) (by decide) rfl ⟨⟨(Nat.le_of_ble_eq_true rfl), (Nat.le_of_ble_eq_true rfl)⟩, (Nat.le_of_ble_eq_true rfl), (Nat.le_of_ble_eq_true rfl)⟩ (Nat.le_of_ble_eq_true rfl) dX3_init_76 ?_
  refine N_cong (g' := nf E (.inr (3, [.ref (adr E 1), .ref (adr E 7), .ref (adr E 13), .ref (adr E 44), .null, .int 0, .int 0])) (Aq E 5)) (fun i hi => nf_obj (by decide) (by omega)) ?_
  refine N_putF (pc := 79) (v := .ref 51) (c := 0) (ci := 3) (T := TX3) (N := 7) (fs := [.ref (adr E 1), .ref (adr E 7), .ref (adr E 13), .ref (adr E 44), .null, .int 0, .int 0]) nf_0 (by decide) (by decide) rfl lay_X3 tyX3 tyX3_ok nmX3 4 (by decide) wi_158 rfl rfl rfl rfl rfl rfl (Nat.le_of_ble_eq_true rfl) dX3_init_79 ?_
  refine N_cong (g' := nf E (.inr (3, [.ref (adr E 1), .ref (adr E 7), .ref (adr E 13), .ref (adr E 44), .ref (adr E 51), .int 0, .int 0])) (Aq E 5)) (fun i hi => nf_put0) ?_
  refine N_aload_n (pc := 82) dX3_init_82 rfl 0 rfl ?_
  refine N_iconst (v := (0 : Int32)) (pc := 83) dX3_init_83 (by decide) ?_
  refine N_put (pc := 84) (v := .int 0) (c := 0) (ci := 3) (T := TX3) (N := 7) (fs := [.ref (adr E 1), .ref (adr E 7), .ref (adr E 13), .ref (adr E 44), .ref (adr E 51), .int 0, .int 0]) nf_0 (by decide) (by decide) rfl lay_X3 tyX3 tyX3_ok nmX3 5 (by decide) wi_159 rfl rfl rfl rfl (Nat.le_of_ble_eq_true rfl) dX3_init_84 ?_
  refine N_cong (g' := nf E (.inr (3, [.ref (adr E 1), .ref (adr E 7), .ref (adr E 13), .ref (adr E 44), .ref (adr E 51), .int 0, .int 0])) (Aq E 5)) (fun i hi => nf_put0) ?_
  refine N_aload_n (pc := 87) dX3_init_87 rfl 0 rfl ?_
  refine N_iconst (v := (0 : Int32)) (pc := 88) dX3_init_88 (by decide) ?_
  refine N_put (pc := 89) (v := .int 0) (c := 0) (ci := 3) (T := TX3) (N := 7) (fs := [.ref (adr E 1), .ref (adr E 7), .ref (adr E 13), .ref (adr E 44), .ref (adr E 51), .int 0, .int 0]) nf_0 (by decide) (by decide) rfl lay_X3 tyX3 tyX3_ok nmX3 6 (by decide) wi_160 rfl rfl rfl rfl (Nat.le_of_ble_eq_true rfl) dX3_init_89 ?_
  refine N_cong (g' := nf E (.inr (3, [.ref (adr E 1), .ref (adr E 7), .ref (adr E 13), .ref (adr E 44), .ref (adr E 51), .int 0, .int 0])) (Aq E 5)) (fun i hi => nf_put0) ?_
  refine N_congA (g' := jc E W0) (fun i hi H => nf_end i) ?_
  exact N_return (pc := 92) dX3_init_92 rfl (fun i hi => rfl) rfl rfl rfl

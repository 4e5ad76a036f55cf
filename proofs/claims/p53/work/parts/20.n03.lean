/-! ===== the constructors that call none ===== -/
def Wz : Wd := (fun _ _ => 0, fun _ _ => 0, fun j => 14 + 6 * j)
/-- the world at the start -/
def W0 : Wd := Wz
/-- from b on as at the start -/
def gB (E : En) (g : Nat → va_E) (b : Nat) : Nat → va_E := fun i => if i < b then g i else jc E W0 i
theorem gB_lo {E : En} {g : Nat → va_E} {b i : Nat} (h : i < b) : gB E g b i = g i := if_pos h
theorem gB_hi {E : En} {g : Nat → va_E} {b i : Nat} (h : b ≤ i) : gB E g b i = jc E W0 i := if_neg (by omega)
abbrev mi_X0_init : MI := (yX0_init, cX0_init, 1, none, 1, 12, 6, 28682, [])
abbrev mi_X1_init : MI := (yX1_init, cX1_init, 1, none, 1, 12, 5, 138, [])
abbrev mi_X2_init : MI := (yX2_init, cX2_init, 1, none, 1, 12, 1, 60, [])
abbrev mi_X3_init : MI := (yX3_init, cX3_init, 2, none, 2, 32, 52, 29797, [])
theorem wi_20 : Cond.initialized RX3 ∈ SWL := SWL_mem 20 (by decide +kernel) rfl
theorem wi_21 : Cond.initialized RX1 ∈ SWL := SWL_mem 21 (by decide +kernel) rfl
theorem wi_22 : Cond.initialized RX0 ∈ SWL := SWL_mem 22 (by decide +kernel) rfl
theorem wi_23 : Cond.initialized RX2 ∈ SWL := SWL_mem 23 (by decide +kernel) rfl
theorem wi_36 : Cond.instanceMethod yX3_init ∈ SWL := SWL_mem 36 (by decide +kernel) rfl
theorem wi_37 : Cond.code yX3_init cX3_init 2 none ∈ SWL := SWL_mem 37 (by decide +kernel) rfl
theorem wi_39 : Cond.instanceMethod Lib.objectInit ∈ SWL := SWL_mem 39 (by decide +kernel) rfl
theorem wi_40 : Cond.code Lib.objectInit ⟨#[0xb1]⟩ 1 none ∈ SWL := SWL_mem 40 (by decide +kernel) rfl
theorem wi_44 : Cond.instanceMethod yX1_init ∈ SWL := SWL_mem 44 (by decide +kernel) rfl
theorem wi_45 : Cond.code yX1_init cX1_init 1 none ∈ SWL := SWL_mem 45 (by decide +kernel) rfl
theorem wi_46 : Cond.methodLink RX1 3 Lib.objectInit ∈ SWL := SWL_mem 46 (by decide +kernel) rfl
theorem wi_47 : Cond.fieldLink RX1 9 RX1 "lanes" "[I" ∈ SWL := SWL_mem 47 (by decide +kernel) rfl
theorem wi_50 : Cond.fieldLink RX1 15 RX1 "places" "[I" ∈ SWL := SWL_mem 50 (by decide +kernel) rfl
theorem wi_53 : Cond.fieldLink RX1 18 RX1 "lengths" "[I" ∈ SWL := SWL_mem 53 (by decide +kernel) rfl
theorem wi_56 : Cond.fieldLink RX1 21 RX1 "loggedCars" "[I" ∈ SWL := SWL_mem 56 (by decide +kernel) rfl
theorem wi_58 : Cond.fieldLink RX1 24 RX1 "loggedChanges" "[I" ∈ SWL := SWL_mem 58 (by decide +kernel) rfl
theorem wi_91 : Cond.arrayClass .int ∈ SWL := SWL_mem 91 (by decide +kernel) rfl
theorem wi_96 : Cond.instanceMethod yX0_init ∈ SWL := SWL_mem 96 (by decide +kernel) rfl
theorem wi_97 : Cond.code yX0_init cX0_init 1 none ∈ SWL := SWL_mem 97 (by decide +kernel) rfl
theorem wi_98 : Cond.methodLink RX0 5 Lib.objectInit ∈ SWL := SWL_mem 98 (by decide +kernel) rfl
theorem wi_99 : Cond.fieldLink RX0 11 RX0 "lengths" "[I" ∈ SWL := SWL_mem 99 (by decide +kernel) rfl
theorem wi_100 : Cond.fieldLink RX0 15 RX0 "taken" "[I" ∈ SWL := SWL_mem 100 (by decide +kernel) rfl
theorem wi_101 : Cond.fieldLink RX0 18 RX0 "costs" "[I" ∈ SWL := SWL_mem 101 (by decide +kernel) rfl
theorem wi_102 : Cond.fieldLink RX0 21 RX0 "found" "[I" ∈ SWL := SWL_mem 102 (by decide +kernel) rfl
theorem wi_103 : Cond.fieldLink RX0 24 RX0 "buckets" "[I" ∈ SWL := SWL_mem 103 (by decide +kernel) rfl
theorem wi_104 : Cond.fieldLink RX0 27 RX0 "filled" "[I" ∈ SWL := SWL_mem 104 (by decide +kernel) rfl
theorem wi_143 : Cond.instanceMethod yX2_init ∈ SWL := SWL_mem 143 (by decide +kernel) rfl
theorem wi_144 : Cond.code yX2_init cX2_init 1 none ∈ SWL := SWL_mem 144 (by decide +kernel) rfl
theorem wi_145 : Cond.methodLink RX2 3 Lib.objectInit ∈ SWL := SWL_mem 145 (by decide +kernel) rfl
theorem wi_146 : Cond.fieldLink RX2 9 RX2 "codes" "[I" ∈ SWL := SWL_mem 146 (by decide +kernel) rfl
set_option maxRecDepth 20000 in
theorem mn_X0 : MN mi_X0_init := ⟨rfl, wi_97, wi_22, ⟨by decide, by decide⟩, by decide +kernel, wi_96, rfl⟩
set_option maxRecDepth 20000 in
theorem mn_X1 : MN mi_X1_init := ⟨rfl, wi_45, wi_21, ⟨by decide, by decide⟩, by decide +kernel, wi_44, rfl⟩
set_option maxRecDepth 20000 in
theorem mn_X2 : MN mi_X2_init := ⟨rfl, wi_144, wi_23, ⟨by decide, by decide⟩, by decide +kernel, wi_143, rfl⟩
set_option maxRecDepth 20000 in
theorem mn_X3 : MN mi_X3_init := ⟨rfl, wi_37, wi_20, ⟨by decide, by decide⟩, by decide +kernel, wi_36, rfl⟩
set_option maxRecDepth 20000 in
theorem con_X2_51 {E : En} {g : Nat → va_E} (hb : g 51 = .inr (2, [.null, .int 0])) : ConI E mi_X2_init 51 g (gB E g 51) 52 53 := by
  refine ConI.of (by decide) rfl (Nat.le_of_ble_eq_true rfl) (fun κ => ?_)
  refine N_aload_n (pc := 0) dX2_init_0 rfl 0 rfl ?_
  refine N_objInit (pc := 1) wi_145 wi_39 wi_40 (Nat.le_of_ble_eq_true rfl) (Nat.le_of_ble_eq_true rfl) dX2_init_1 ?_
  refine N_aload_n (pc := 4) dX2_init_4 rfl 0 rfl ?_
  refine N_bipush (v := (60 : Int32)) (pc := 5) dX2_init_5 (by decide) ?_
  refine N_newa (atype := .int) (ty := .int) (pc := 7) (j := 0) (N := 60) (a0 := (60, .inl (fun _ => 0))) wi_91 rfl rfl (fun _ _ h => h) (fun _ => rfl) (by decide +kernel) (by decide +kernel) (Nat.le_of_ble_eq_true rfl) (Nat.le_of_ble_eq_true rfl) (Nat.le_of_ble_eq_true rfl) (by decide) dX2_init_7 ?_
  refine N_putF (pc := 9) (v := .ref 52) (c := 51) (ci := 2) (T := TX2) (N := 2) (fs := [.null, .int 0]) ((gs_n (by decide)).trans hb) (by decide) (by decide) rfl lay_X2 tyX2 tyX2_ok nmX2 0 (by decide) wi_146 rfl rfl rfl rfl rfl rfl (Nat.le_of_ble_eq_true rfl) dX2_init_9 ?_
  refine N_return (pc := 12) dX2_init_12 rfl (fun i hi => ?_) rfl rfl rfl
  rcases Nat.lt_or_ge i 51 with h | h
  · refine (gs_n (show i ≠ 51 by omega)).trans <| (gs_n (show i ≠ 52 by omega)).trans <| Eq.trans rfl (gB_lo h).symm
  · have h9 : i = 51 ∨ i = 52 := by omega
    rcases h9 with rfl | rfl <;> rfl
set_option maxRecDepth 20000 in
theorem con_X1_1 {E : En} {g : Nat → va_E} (hb : g 1 = .inr (1, [.null, .null, .null, .null, .null, .int 0, .int 0, .int 0, .int 0, .int 0])) : ConI E mi_X1_init 1 g (gB E g 1) 2 7 := by
  refine ConI.of (by decide) rfl (Nat.le_of_ble_eq_true rfl) (fun κ => ?_)
  refine N_aload_n (pc := 0) dX1_init_0 rfl 0 rfl ?_
  refine N_objInit (pc := 1) wi_46 wi_39 wi_40 (Nat.le_of_ble_eq_true rfl) (Nat.le_of_ble_eq_true rfl) dX1_init_1 ?_
  refine N_aload_n (pc := 4) dX1_init_4 rfl 0 rfl ?_
  refine N_bipush (v := (6 : Int32)) (pc := 5) dX1_init_5 (by decide) ?_
  refine N_newa (atype := .int) (ty := .int) (pc := 7) (j := 0) (N := 6) (a0 := (6, .inl (fun _ => 0))) wi_91 rfl rfl (fun _ _ h => h) (fun _ => rfl) (by decide +kernel) (by decide +kernel) (Nat.le_of_ble_eq_true rfl) (Nat.le_of_ble_eq_true rfl) (Nat.le_of_ble_eq_true rfl) (by decide) dX1_init_7 ?_
  refine N_putF (pc := 9) (v := .ref 2) (c := 1) (ci := 1) (T := TX1) (N := 10) (fs := [.null, .null, .null, .null, .null, .int 0, .int 0, .int 0, .int 0, .int 0]) ((gs_n (by decide)).trans hb) (by decide) (by decide) rfl lay_X1 tyX1 tyX1_ok nmX1 0 (by decide) wi_47 rfl rfl rfl rfl rfl rfl (Nat.le_of_ble_eq_true rfl) dX1_init_9 ?_
  refine N_aload_n (pc := 12) dX1_init_12 rfl 0 rfl ?_
  refine N_bipush (v := (6 : Int32)) (pc := 13) dX1_init_13 (by decide) ?_
  refine N_newa (atype := .int) (ty := .int) (pc := 15) (j := 0) (N := 6) (a0 := (6, .inl (fun _ => 0))) wi_91 rfl rfl (fun _ _ h => h) (fun _ => rfl) (by decide +kernel) (by decide +kernel) (Nat.le_of_ble_eq_true rfl) (Nat.le_of_ble_eq_true rfl) (Nat.le_of_ble_eq_true rfl) (by decide) dX1_init_15 ?_
  refine N_putF (pc := 17) (v := .ref 3) (c := 1) (ci := 1) (T := TX1) (N := 10) (fs := [.ref (adr E 2), .null, .null, .null, .null, .int 0, .int 0, .int 0, .int 0, .int 0]) ((gs_n (by decide)).trans gs_s) (by decide) (by decide) rfl lay_X1 tyX1 tyX1_ok nmX1 1 (by decide) wi_50 rfl rfl rfl rfl rfl rfl (Nat.le_of_ble_eq_true rfl) dX1_init_17 ?_
  refine N_aload_n (pc := 20) dX1_init_20 rfl 0 rfl ?_
  refine N_bipush (v := (6 : Int32)) (pc := 21) dX1_init_21 (by decide) ?_
  refine N_newa (atype := .int) (ty := .int) (pc := 23) (j := 0) (N := 6) (a0 := (6, .inl (fun _ => 0))) wi_91 rfl rfl (fun _ _ h => h) (fun _ => rfl) (by decide +kernel) (by decide +kernel) (Nat.le_of_ble_eq_true rfl) (Nat.le_of_ble_eq_true rfl) (Nat.le_of_ble_eq_true rfl) (by decide) dX1_init_23 ?_
  refine N_putF (pc := 25) (v := .ref 4) (c := 1) (ci := 1) (T := TX1) (N := 10) (fs := [.ref (adr E 2), .ref (adr E 3), .null, .null, .null, .int 0, .int 0, .int 0, .int 0, .int 0]) ((gs_n (by decide)).trans gs_s) (by decide) (by decide) rfl lay_X1 tyX1 tyX1_ok nmX1 2 (by decide) wi_53 rfl rfl rfl rfl rfl rfl (Nat.le_of_ble_eq_true rfl) dX1_init_25 ?_
  refine N_aload_n (pc := 28) dX1_init_28 rfl 0 rfl ?_
  refine N_bipush (v := (60 : Int32)) (pc := 29) dX1_init_29 (by decide) ?_
  refine N_newa (atype := .int) (ty := .int) (pc := 31) (j := 0) (N := 60) (a0 := (60, .inl (fun _ => 0))) wi_91 rfl rfl (fun _ _ h => h) (fun _ => rfl) (by decide +kernel) (by decide +kernel) (Nat.le_of_ble_eq_true rfl) (Nat.le_of_ble_eq_true rfl) (Nat.le_of_ble_eq_true rfl) (by decide) dX1_init_31 ?_
  refine N_putF (pc := 33) (v := .ref 5) (c := 1) (ci := 1) (T := TX1) (N := 10) (fs := [.ref (adr E 2), .ref (adr E 3), .ref (adr E 4), .null, .null, .int 0, .int 0, .int 0, .int 0, .int 0]) ((gs_n (by decide)).trans gs_s) (by decide) (by decide) rfl lay_X1 tyX1 tyX1_ok nmX1 3 (by decide) wi_56 rfl rfl rfl rfl rfl rfl (Nat.le_of_ble_eq_true rfl) dX1_init_33 ?_
  refine N_aload_n (pc := 36) dX1_init_36 rfl 0 rfl ?_
  refine N_bipush (v := (60 : Int32)) (pc := 37) dX1_init_37 (by decide) ?_
  refine N_newa (atype := .int) (ty := .int) (pc := 39) (j := 0) (N := 60) (a0 := (60, .inl (fun _ => 0))) wi_91 rfl rfl (fun _ _ h => h) (fun _ => rfl) (by decide +kernel) (by decide +kernel) (Nat.le_of_ble_eq_true rfl) (Nat.le_of_ble_eq_true rfl) (Nat.le_of_ble_eq_true rfl) (by decide) dX1_init_39 ?_
  refine N_putF (pc := 41) (v := .ref 6) (c := 1) (ci := 1) (T := TX1) (N := 10) (fs := [.ref (adr E 2), .ref (adr E 3), .ref (adr E 4), .ref (adr E 5), .null, .int 0, .int 0, .int 0, .int 0, .int 0]) ((gs_n (by decide)).trans gs_s) (by decide) (by decide) rfl lay_X1 tyX1 tyX1_ok nmX1 4 (by decide) wi_58 rfl rfl rfl rfl rfl rfl (Nat.le_of_ble_eq_true rfl) dX1_init_41 ?_
  refine N_return (pc := 44) dX1_init_44 rfl (fun i hi => ?_) rfl rfl rfl
  rcases Nat.lt_or_ge i 1 with h | h
  · refine (gs_n (show i ≠ 1 by omega)).trans <| (gs_n (show i ≠ 6 by omega)).trans <| (gs_n (show i ≠ 1 by omega)).trans <| (gs_n (show i ≠ 5 by omega)).trans <| (gs_n (show i ≠ 1 by omega)).trans <| (gs_n (show i ≠ 4 by omega)).trans <| (gs_n (show i ≠ 1 by omega)).trans <| (gs_n (show i ≠ 3 by omega)).trans <| (gs_n (show i ≠ 1 by omega)).trans <| (gs_n (show i ≠ 2 by omega)).trans <| Eq.trans rfl (gB_lo h).symm
  · have h9 : i = 1 ∨ i = 2 ∨ i = 3 ∨ i = 4 ∨ i = 5 ∨ i = 6 := by omega
    rcases h9 with rfl | rfl | rfl | rfl | rfl | rfl <;> rfl
set_option maxRecDepth 20000 in
theorem con_X1_7 {E : En} {g : Nat → va_E} (hb : g 7 = .inr (1, [.null, .null, .null, .null, .null, .int 0, .int 0, .int 0, .int 0, .int 0])) : ConI E mi_X1_init 7 g (gB E g 7) 8 13 := by
  refine ConI.of (by decide) rfl (Nat.le_of_ble_eq_true rfl) (fun κ => ?_)
  refine N_aload_n (pc := 0) dX1_init_0 rfl 0 rfl ?_
  refine N_objInit (pc := 1) wi_46 wi_39 wi_40 (Nat.le_of_ble_eq_true rfl) (Nat.le_of_ble_eq_true rfl) dX1_init_1 ?_
  refine N_aload_n (pc := 4) dX1_init_4 rfl 0 rfl ?_
  refine N_bipush (v := (6 : Int32)) (pc := 5) dX1_init_5 (by decide) ?_
  refine N_newa (atype := .int) (ty := .int) (pc := 7) (j := 0) (N := 6) (a0 := (6, .inl (fun _ => 0))) wi_91 rfl rfl (fun _ _ h => h) (fun _ => rfl) (by decide +kernel) (by decide +kernel) (Nat.le_of_ble_eq_true rfl) (Nat.le_of_ble_eq_true rfl) (Nat.le_of_ble_eq_true rfl) (by decide) dX1_init_7 ?_
  refine N_putF (pc := 9) (v := .ref 8) (c := 7) (ci := 1) (T := TX1) (N := 10) (fs := [.null, .null, .null, .null, .null, .int 0, .int 0, .int 0, .int 0, .int 0]) ((gs_n (by decide)).trans hb) (by decide) (by decide) rfl lay_X1 tyX1 tyX1_ok nmX1 0 (by decide) wi_47 rfl rfl rfl rfl rfl rfl (Nat.le_of_ble_eq_true rfl) dX1_init_9 ?_
  refine N_aload_n (pc := 12) dX1_init_12 rfl 0 rfl ?_
  refine N_bipush (v := (6 : Int32)) (pc := 13) dX1_init_13 (by decide) ?_
  refine N_newa (atype := .int) (ty := .int) (pc := 15) (j := 0) (N := 6) (a0 := (6, .inl (fun _ => 0))) wi_91 rfl rfl (fun _ _ h => h) (fun _ => rfl) (by decide +kernel) (by decide +kernel) (Nat.le_of_ble_eq_true rfl) (Nat.le_of_ble_eq_true rfl) (Nat.le_of_ble_eq_true rfl) (by decide) dX1_init_15 ?_
  refine N_putF (pc := 17) (v := .ref 9) (c := 7) (ci := 1) (T := TX1) (N := 10) (fs := [.ref (adr E 8), .null, .null, .null, .null, .int 0, .int 0, .int 0, .int 0, .int 0]) ((gs_n (by decide)).trans gs_s) (by decide) (by decide) rfl lay_X1 tyX1 tyX1_ok nmX1 1 (by decide) wi_50 rfl rfl rfl rfl rfl rfl (Nat.le_of_ble_eq_true rfl) dX1_init_17 ?_
  refine N_aload_n (pc := 20) dX1_init_20 rfl 0 rfl ?_
  refine N_bipush (v := (6 : Int32)) (pc := 21) dX1_init_21 (by decide) ?_
  refine N_newa (atype := .int) (ty := .int) (pc := 23) (j := 0) (N := 6) (a0 := (6, .inl (fun _ => 0))) wi_91 rfl rfl (fun _ _ h => h) (fun _ => rfl) (by decide +kernel) (by decide +kernel) (Nat.le_of_ble_eq_true rfl) (Nat.le_of_ble_eq_true rfl) (Nat.le_of_ble_eq_true rfl) (by decide) dX1_init_23 ?_
  refine N_putF (pc := 25) (v := .ref 10) (c := 7) (ci := 1) (T := TX1) (N := 10) (fs := [.ref (adr E 8), .ref (adr E 9), .null, .null, .null, .int 0, .int 0, .int 0, .int 0, .int 0]) ((gs_n (by decide)).trans gs_s) (by decide) (by decide) rfl lay_X1 tyX1 tyX1_ok nmX1 2 (by decide) wi_53 rfl rfl rfl rfl rfl rfl (Nat.le_of_ble_eq_true rfl) dX1_init_25 ?_
  refine N_aload_n (pc := 28) dX1_init_28 rfl 0 rfl ?_
  refine N_bipush (v := (60 : Int32)) (pc := 29) dX1_init_29 (by decide) ?_
  refine N_newa (atype := .int) (ty := .int) (pc := 31) (j := 0) (N := 60) (a0 := (60, .inl (fun _ => 0))) wi_91 rfl rfl (fun _ _ h => h) (fun _ => rfl) (by decide +kernel) (by decide +kernel) (Nat.le_of_ble_eq_true rfl) (Nat.le_of_ble_eq_true rfl) (Nat.le_of_ble_eq_true rfl) (by decide) dX1_init_31 ?_
  refine N_putF (pc := 33) (v := .ref 11) (c := 7) (ci := 1) (T := TX1) (N := 10) (fs := [.ref (adr E 8), .ref (adr E 9), .ref (adr E 10), .null, .null, .int 0, .int 0, .int 0, .int 0, .int 0]) ((gs_n (by decide)).trans gs_s) (by decide) (by decide) rfl lay_X1 tyX1 tyX1_ok nmX1 3 (by decide) wi_56 rfl rfl rfl rfl rfl rfl (Nat.le_of_ble_eq_true rfl) dX1_init_33 ?_
  refine N_aload_n (pc := 36) dX1_init_36 rfl 0 rfl ?_
  refine N_bipush (v := (60 : Int32)) (pc := 37) dX1_init_37 (by decide) ?_
  refine N_newa (atype := .int) (ty := .int) (pc := 39) (j := 0) (N := 60) (a0 := (60, .inl (fun _ => 0))) wi_91 rfl rfl (fun _ _ h => h) (fun _ => rfl) (by decide +kernel) (by decide +kernel) (Nat.le_of_ble_eq_true rfl) (Nat.le_of_ble_eq_true rfl) (Nat.le_of_ble_eq_true rfl) (by decide) dX1_init_39 ?_
  refine N_putF (pc := 41) (v := .ref 12) (c := 7) (ci := 1) (T := TX1) (N := 10) (fs := [.ref (adr E 8), .ref (adr E 9), .ref (adr E 10), .ref (adr E 11), .null, .int 0, .int 0, .int 0, .int 0, .int 0]) ((gs_n (by decide)).trans gs_s) (by decide) (by decide) rfl lay_X1 tyX1 tyX1_ok nmX1 4 (by decide) wi_58 rfl rfl rfl rfl rfl rfl (Nat.le_of_ble_eq_true rfl) dX1_init_41 ?_
  refine N_return (pc := 44) dX1_init_44 rfl (fun i hi => ?_) rfl rfl rfl
  rcases Nat.lt_or_ge i 7 with h | h
  · refine (gs_n (show i ≠ 7 by omega)).trans <| (gs_n (show i ≠ 12 by omega)).trans <| (gs_n (show i ≠ 7 by omega)).trans <| (gs_n (show i ≠ 11 by omega)).trans <| (gs_n (show i ≠ 7 by omega)).trans <| (gs_n (show i ≠ 10 by omega)).trans <| (gs_n (show i ≠ 7 by omega)).trans <| (gs_n (show i ≠ 9 by omega)).trans <| (gs_n (show i ≠ 7 by omega)).trans <| (gs_n (show i ≠ 8 by omega)).trans <| Eq.trans rfl (gB_lo h).symm
  · have h9 : i = 7 ∨ i = 8 ∨ i = 9 ∨ i = 10 ∨ i = 11 ∨ i = 12 := by omega
    rcases h9 with rfl | rfl | rfl | rfl | rfl | rfl <;> rfl
set_option maxRecDepth 20000 in
theorem con_X1_14 {E : En} {g : Nat → va_E} (hb : g 14 = .inr (1, [.null, .null, .null, .null, .null, .int 0, .int 0, .int 0, .int 0, .int 0])) : ConI E mi_X1_init 14 g (gB E g 14) 15 20 := by
  refine ConI.of (by decide) rfl (Nat.le_of_ble_eq_true rfl) (fun κ => ?_)
  refine N_aload_n (pc := 0) dX1_init_0 rfl 0 rfl ?_
  refine N_objInit (pc := 1) wi_46 wi_39 wi_40 (Nat.le_of_ble_eq_true rfl) (Nat.le_of_ble_eq_true rfl) dX1_init_1 ?_
  refine N_aload_n (pc := 4) dX1_init_4 rfl 0 rfl ?_
  refine N_bipush (v := (6 : Int32)) (pc := 5) dX1_init_5 (by decide) ?_
  refine N_newa (atype := .int) (ty := .int) (pc := 7) (j := 0) (N := 6) (a0 := (6, .inl (fun _ => 0))) wi_91 rfl rfl (fun _ _ h => h) (fun _ => rfl) (by decide +kernel) (by decide +kernel) (Nat.le_of_ble_eq_true rfl) (Nat.le_of_ble_eq_true rfl) (Nat.le_of_ble_eq_true rfl) (by decide) dX1_init_7 ?_
  refine N_putF (pc := 9) (v := .ref 15) (c := 14) (ci := 1) (T := TX1) (N := 10) (fs := [.null, .null, .null, .null, .null, .int 0, .int 0, .int 0, .int 0, .int 0]) ((gs_n (by decide)).trans hb) (by decide) (by decide) rfl lay_X1 tyX1 tyX1_ok nmX1 0 (by decide) wi_47 rfl rfl rfl rfl rfl rfl (Nat.le_of_ble_eq_true rfl) dX1_init_9 ?_
  refine N_aload_n (pc := 12) dX1_init_12 rfl 0 rfl ?_
  refine N_bipush (v := (6 : Int32)) (pc := 13) dX1_init_13 (by decide) ?_
  refine N_newa (atype := .int) (ty := .int) (pc := 15) (j := 0) (N := 6) (a0 := (6, .inl (fun _ => 0))) wi_91 rfl rfl (fun _ _ h => h) (fun _ => rfl) (by decide +kernel) (by decide +kernel) (Nat.le_of_ble_eq_true rfl) (Nat.le_of_ble_eq_true rfl) (Nat.le_of_ble_eq_true rfl) (by decide) dX1_init_15 ?_
  refine N_putF (pc := 17) (v := .ref 16) (c := 14) (ci := 1) (T := TX1) (N := 10) (fs := [.ref (adr E 15), .null, .null, .null, .null, .int 0, .int 0, .int 0, .int 0, .int 0]) ((gs_n (by decide)).trans gs_s) (by decide) (by decide) rfl lay_X1 tyX1 tyX1_ok nmX1 1 (by decide) wi_50 rfl rfl rfl rfl rfl rfl (Nat.le_of_ble_eq_true rfl) dX1_init_17 ?_
  refine N_aload_n (pc := 20) dX1_init_20 rfl 0 rfl ?_
  refine N_bipush (v := (6 : Int32)) (pc := 21) dX1_init_21 (by decide) ?_
  refine N_newa (atype := .int) (ty := .int) (pc := 23) (j := 0) (N := 6) (a0 := (6, .inl (fun _ => 0))) wi_91 rfl rfl (fun _ _ h => h) (fun _ => rfl) (by decide +kernel) (by decide +kernel) (Nat.le_of_ble_eq_true rfl) (Nat.le_of_ble_eq_true rfl) (Nat.le_of_ble_eq_true rfl) (by decide) dX1_init_23 ?_
  refine N_putF (pc := 25) (v := .ref 17) (c := 14) (ci := 1) (T := TX1) (N := 10) (fs := [.ref (adr E 15), .ref (adr E 16), .null, .null, .null, .int 0, .int 0, .int 0, .int 0, .int 0]) ((gs_n (by decide)).trans gs_s) (by decide) (by decide) rfl lay_X1 tyX1 tyX1_ok nmX1 2 (by decide) wi_53 rfl rfl rfl rfl rfl rfl (Nat.le_of_ble_eq_true rfl) dX1_init_25 ?_
  refine N_aload_n (pc := 28) dX1_init_28 rfl 0 rfl ?_
  refine N_bipush (v := (60 : Int32)) (pc := 29) dX1_init_29 (by decide) ?_
  refine N_newa (atype := .int) (ty := .int) (pc := 31) (j := 0) (N := 60) (a0 := (60, .inl (fun _ => 0))) wi_91 rfl rfl (fun _ _ h => h) (fun _ => rfl) (by decide +kernel) (by decide +kernel) (Nat.le_of_ble_eq_true rfl) (Nat.le_of_ble_eq_true rfl) (Nat.le_of_ble_eq_true rfl) (by decide) dX1_init_31 ?_
  refine N_putF (pc := 33) (v := .ref 18) (c := 14) (ci := 1) (T := TX1) (N := 10) (fs := [.ref (adr E 15), .ref (adr E 16), .ref (adr E 17), .null, .null, .int 0, .int 0, .int 0, .int 0, .int 0]) ((gs_n (by decide)).trans gs_s) (by decide) (by decide) rfl lay_X1 tyX1 tyX1_ok nmX1 3 (by decide) wi_56 rfl rfl rfl rfl rfl rfl (Nat.le_of_ble_eq_true rfl) dX1_init_33 ?_
  refine N_aload_n (pc := 36) dX1_init_36 rfl 0 rfl ?_
  refine N_bipush (v := (60 : Int32)) (pc := 37) dX1_init_37 (by decide) ?_
  refine N_newa (atype := .int) (ty := .int) (pc := 39) (j := 0) (N := 60) (a0 := (60, .inl (fun _ => 0))) wi_91 rfl rfl (fun _ _ h => h) (fun _ => rfl) (by decide +kernel) (by decide +kernel) (Nat.le_of_ble_eq_true rfl) (Nat.le_of_ble_eq_true rfl) (Nat.le_of_ble_eq_true rfl) (by decide) dX1_init_39 ?_
  refine N_putF (pc := 41) (v := .ref 19) (c := 14) (ci := 1) (T := TX1) (N := 10) (fs := [.ref (adr E 15), .ref (adr E 16), .ref (adr E 17), .ref (adr E 18), .null, .int 0, .int 0, .int 0, .int 0, .int 0]) ((gs_n (by decide)).trans gs_s) (by decide) (by decide) rfl lay_X1 tyX1 tyX1_ok nmX1 4 (by decide) wi_58 rfl rfl rfl rfl rfl rfl (Nat.le_of_ble_eq_true rfl) dX1_init_41 ?_
  refine N_return (pc := 44) dX1_init_44 rfl (fun i hi => ?_) rfl rfl rfl
  rcases Nat.lt_or_ge i 14 with h | h
  · refine (gs_n (show i ≠ 14 by omega)).trans <| (gs_n (show i ≠ 19 by omega)).trans <| (gs_n (show i ≠ 14 by omega)).trans <| (gs_n (show i ≠ 18 by omega)).trans <| (gs_n (show i ≠ 14 by omega)).trans <| (gs_n (show i ≠ 17 by omega)).trans <| (gs_n (show i ≠ 14 by omega)).trans <| (gs_n (show i ≠ 16 by omega)).trans <| (gs_n (show i ≠ 14 by omega)).trans <| (gs_n (show i ≠ 15 by omega)).trans <| Eq.trans rfl (gB_lo h).symm
  · have h9 : i = 14 ∨ i = 15 ∨ i = 16 ∨ i = 17 ∨ i = 18 ∨ i = 19 := by omega
    rcases h9 with rfl | rfl | rfl | rfl | rfl | rfl <;> rfl
set_option maxRecDepth 20000 in
theorem con_X1_20 {E : En} {g : Nat → va_E} (hb : g 20 = .inr (1, [.null, .null, .null, .null, .null, .int 0, .int 0, .int 0, .int 0, .int 0])) : ConI E mi_X1_init 20 g (gB E g 20) 21 26 := by
  refine ConI.of (by decide) rfl (Nat.le_of_ble_eq_true rfl) (fun κ => ?_)
  refine N_aload_n (pc := 0) dX1_init_0 rfl 0 rfl ?_
  refine N_objInit (pc := 1) wi_46 wi_39 wi_40 (Nat.le_of_ble_eq_true rfl) (Nat.le_of_ble_eq_true rfl) dX1_init_1 ?_
  refine N_aload_n (pc := 4) dX1_init_4 rfl 0 rfl ?_
  refine N_bipush (v := (6 : Int32)) (pc := 5) dX1_init_5 (by decide) ?_
  refine N_newa (atype := .int) (ty := .int) (pc := 7) (j := 0) (N := 6) (a0 := (6, .inl (fun _ => 0))) wi_91 rfl rfl (fun _ _ h => h) (fun _ => rfl) (by decide +kernel) (by decide +kernel) (Nat.le_of_ble_eq_true rfl) (Nat.le_of_ble_eq_true rfl) (Nat.le_of_ble_eq_true rfl) (by decide) dX1_init_7 ?_
  refine N_putF (pc := 9) (v := .ref 21) (c := 20) (ci := 1) (T := TX1) (N := 10) (fs := [.null, .null, .null, .null, .null, .int 0, .int 0, .int 0, .int 0, .int 0]) ((gs_n (by decide)).trans hb) (by decide) (by decide) rfl lay_X1 tyX1 tyX1_ok nmX1 0 (by decide) wi_47 rfl rfl rfl rfl rfl rfl (Nat.le_of_ble_eq_true rfl) dX1_init_9 ?_
  refine N_aload_n (pc := 12) dX1_init_12 rfl 0 rfl ?_
  refine N_bipush (v := (6 : Int32)) (pc := 13) dX1_init_13 (by decide) ?_
  refine N_newa (atype := .int) (ty := .int) (pc := 15) (j := 0) (N := 6) (a0 := (6, .inl (fun _ => 0))) wi_91 rfl rfl (fun _ _ h => h) (fun _ => rfl) (by decide +kernel) (by decide +kernel) (Nat.le_of_ble_eq_true rfl) (Nat.le_of_ble_eq_true rfl) (Nat.le_of_ble_eq_true rfl) (by decide) dX1_init_15 ?_
  refine N_putF (pc := 17) (v := .ref 22) (c := 20) (ci := 1) (T := TX1) (N := 10) (fs := [.ref (adr E 21), .null, .null, .null, .null, .int 0, .int 0, .int 0, .int 0, .int 0]) ((gs_n (by decide)).trans gs_s) (by decide) (by decide) rfl lay_X1 tyX1 tyX1_ok nmX1 1 (by decide) wi_50 rfl rfl rfl rfl rfl rfl (Nat.le_of_ble_eq_true rfl) dX1_init_17 ?_
  refine N_aload_n (pc := 20) dX1_init_20 rfl 0 rfl ?_
  refine N_bipush (v := (6 : Int32)) (pc := 21) dX1_init_21 (by decide) ?_
  refine N_newa (atype := .int) (ty := .int) (pc := 23) (j := 0) (N := 6) (a0 := (6, .inl (fun _ => 0))) wi_91 rfl rfl (fun _ _ h => h) (fun _ => rfl) (by decide +kernel) (by decide +kernel) (Nat.le_of_ble_eq_true rfl) (Nat.le_of_ble_eq_true rfl) (Nat.le_of_ble_eq_true rfl) (by decide) dX1_init_23 ?_
  refine N_putF (pc := 25) (v := .ref 23) (c := 20) (ci := 1) (T := TX1) (N := 10) (fs := [.ref (adr E 21), .ref (adr E 22), .null, .null, .null, .int 0, .int 0, .int 0, .int 0, .int 0]) ((gs_n (by decide)).trans gs_s) (by decide) (by decide) rfl lay_X1 tyX1 tyX1_ok nmX1 2 (by decide) wi_53 rfl rfl rfl rfl rfl rfl (Nat.le_of_ble_eq_true rfl) dX1_init_25 ?_
  refine N_aload_n (pc := 28) dX1_init_28 rfl 0 rfl ?_
  refine N_bipush (v := (60 : Int32)) (pc := 29) dX1_init_29 (by decide) ?_
  refine N_newa (atype := .int) (ty := .int) (pc := 31) (j := 0) (N := 60) (a0 := (60, .inl (fun _ => 0))) wi_91 rfl rfl (fun _ _ h => h) (fun _ => rfl) (by decide +kernel) (by decide +kernel) (Nat.le_of_ble_eq_true rfl) (Nat.le_of_ble_eq_true rfl) (Nat.le_of_ble_eq_true rfl) (by decide) dX1_init_31 ?_
  refine N_putF (pc := 33) (v := .ref 24) (c := 20) (ci := 1) (T := TX1) (N := 10) (fs := [.ref (adr E 21), .ref (adr E 22), .ref (adr E 23), .null, .null, .int 0, .int 0, .int 0, .int 0, .int 0]) ((gs_n (by decide)).trans gs_s) (by decide) (by decide) rfl lay_X1 tyX1 tyX1_ok nmX1 3 (by decide) wi_56 rfl rfl rfl rfl rfl rfl (Nat.le_of_ble_eq_true rfl) dX1_init_33 ?_
  refine N_aload_n (pc := 36) dX1_init_36 rfl 0 rfl ?_
  refine N_bipush (v := (60 : Int32)) (pc := 37) dX1_init_37 (by decide) ?_
  refine N_newa (atype := .int) (ty := .int) (pc := 39) (j := 0) (N := 60) (a0 := (60, .inl (fun _ => 0))) wi_91 rfl rfl (fun _ _ h => h) (fun _ => rfl) (by decide +kernel) (by decide +kernel) (Nat.le_of_ble_eq_true rfl) (Nat.le_of_ble_eq_true rfl) (Nat.le_of_ble_eq_true rfl) (by decide) dX1_init_39 ?_
  refine N_putF (pc := 41) (v := .ref 25) (c := 20) (ci := 1) (T := TX1) (N := 10) (fs := [.ref (adr E 21), .ref (adr E 22), .ref (adr E 23), .ref (adr E 24), .null, .int 0, .int 0, .int 0, .int 0, .int 0]) ((gs_n (by decide)).trans gs_s) (by decide) (by decide) rfl lay_X1 tyX1 tyX1_ok nmX1 4 (by decide) wi_58 rfl rfl rfl rfl rfl rfl (Nat.le_of_ble_eq_true rfl) dX1_init_41 ?_
  refine N_return (pc := 44) dX1_init_44 rfl (fun i hi => ?_) rfl rfl rfl
  rcases Nat.lt_or_ge i 20 with h | h
  · refine (gs_n (show i ≠ 20 by omega)).trans <| (gs_n (show i ≠ 25 by omega)).trans <| (gs_n (show i ≠ 20 by omega)).trans <| (gs_n (show i ≠ 24 by omega)).trans <| (gs_n (show i ≠ 20 by omega)).trans <| (gs_n (show i ≠ 23 by omega)).trans <| (gs_n (show i ≠ 20 by omega)).trans <| (gs_n (show i ≠ 22 by omega)).trans <| (gs_n (show i ≠ 20 by omega)).trans <| (gs_n (show i ≠ 21 by omega)).trans <| Eq.trans rfl (gB_lo h).symm
  · have h9 : i = 20 ∨ i = 21 ∨ i = 22 ∨ i = 23 ∨ i = 24 ∨ i = 25 := by omega
    rcases h9 with rfl | rfl | rfl | rfl | rfl | rfl <;> rfl
set_option maxRecDepth 20000 in
theorem con_X1_26 {E : En} {g : Nat → va_E} (hb : g 26 = .inr (1, [.null, .null, .null, .null, .null, .int 0, .int 0, .int 0, .int 0, .int 0])) : ConI E mi_X1_init 26 g (gB E g 26) 27 32 := by
  refine ConI.of (by decide) rfl (Nat.le_of_ble_eq_true rfl) (fun κ => ?_)
  refine N_aload_n (pc := 0) dX1_init_0 rfl 0 rfl ?_
  refine N_objInit (pc := 1) wi_46 wi_39 wi_40 (Nat.le_of_ble_eq_true rfl) (Nat.le_of_ble_eq_true rfl) dX1_init_1 ?_
  refine N_aload_n (pc := 4) dX1_init_4 rfl 0 rfl ?_
  refine N_bipush (v := (6 : Int32)) (pc := 5) dX1_init_5 (by decide) ?_
  refine N_newa (atype := .int) (ty := .int) (pc := 7) (j := 0) (N := 6) (a0 := (6, .inl (fun _ => 0))) wi_91 rfl rfl (fun _ _ h => h) (fun _ => rfl) (by decide +kernel) (by decide +kernel) (Nat.le_of_ble_eq_true rfl) (Nat.le_of_ble_eq_true rfl) (Nat.le_of_ble_eq_true rfl) (by decide) dX1_init_7 ?_
  refine N_putF (pc := 9) (v := .ref 27) (c := 26) (ci := 1) (T := TX1) (N := 10) (fs := [.null, .null, .null, .null, .null, .int 0, .int 0, .int 0, .int 0, .int 0]) ((gs_n (by decide)).trans hb) (by decide) (by decide) rfl lay_X1 tyX1 tyX1_ok nmX1 0 (by decide) wi_47 rfl rfl rfl rfl rfl rfl (Nat.le_of_ble_eq_true rfl) dX1_init_9 ?_
  refine N_aload_n (pc := 12) dX1_init_12 rfl 0 rfl ?_
  refine N_bipush (v := (6 : Int32)) (pc := 13) dX1_init_13 (by decide) ?_
  refine N_newa (atype := .int) (ty := .int) (pc := 15) (j := 0) (N := 6) (a0 := (6, .inl (fun _ => 0))) wi_91 rfl rfl (fun _ _ h => h) (fun _ => rfl) (by decide +kernel) (by decide +kernel) (Nat.le_of_ble_eq_true rfl) (Nat.le_of_ble_eq_true rfl) (Nat.le_of_ble_eq_true rfl) (by decide) dX1_init_15 ?_
  refine N_putF (pc := 17) (v := .ref 28) (c := 26) (ci := 1) (T := TX1) (N := 10) (fs := [.ref (adr E 27), .null, .null, .null, .null, .int 0, .int 0, .int 0, .int 0, .int 0]) ((gs_n (by decide)).trans gs_s) (by decide) (by decide) rfl lay_X1 tyX1 tyX1_ok nmX1 1 (by decide) wi_50 rfl rfl rfl rfl rfl rfl (Nat.le_of_ble_eq_true rfl) dX1_init_17 ?_
  refine N_aload_n (pc := 20) dX1_init_20 rfl 0 rfl ?_
  refine N_bipush (v := (6 : Int32)) (pc := 21) dX1_init_21 (by decide) ?_
  refine N_newa (atype := .int) (ty := .int) (pc := 23) (j := 0) (N := 6) (a0 := (6, .inl (fun _ => 0))) wi_91 rfl rfl (fun _ _ h => h) (fun _ => rfl) (by decide +kernel) (by decide +kernel) (Nat.le_of_ble_eq_true rfl) (Nat.le_of_ble_eq_true rfl) (Nat.le_of_ble_eq_true rfl) (by decide) dX1_init_23 ?_
  refine N_putF (pc := 25) (v := .ref 29) (c := 26) (ci := 1) (T := TX1) (N := 10) (fs := [.ref (adr E 27), .ref (adr E 28), .null, .null, .null, .int 0, .int 0, .int 0, .int 0, .int 0]) ((gs_n (by decide)).trans gs_s) (by decide) (by decide) rfl lay_X1 tyX1 tyX1_ok nmX1 2 (by decide) wi_53 rfl rfl rfl rfl rfl rfl (Nat.le_of_ble_eq_true rfl) dX1_init_25 ?_
  refine N_aload_n (pc := 28) dX1_init_28 rfl 0 rfl ?_
  refine N_bipush (v := (60 : Int32)) (pc := 29) dX1_init_29 (by decide) ?_
  refine N_newa (atype := .int) (ty := .int) (pc := 31) (j := 0) (N := 60) (a0 := (60, .inl (fun _ => 0))) wi_91 rfl rfl (fun _ _ h => h) (fun _ => rfl) (by decide +kernel) (by decide +kernel) (Nat.le_of_ble_eq_true rfl) (Nat.le_of_ble_eq_true rfl) (Nat.le_of_ble_eq_true rfl) (by decide) dX1_init_31 ?_
  refine N_putF (pc := 33) (v := .ref 30) (c := 26) (ci := 1) (T := TX1) (N := 10) (fs := [.ref (adr E 27), .ref (adr E 28), .ref (adr E 29), .null, .null, .int 0, .int 0, .int 0, .int 0, .int 0]) ((gs_n (by decide)).trans gs_s) (by decide) (by decide) rfl lay_X1 tyX1 tyX1_ok nmX1 3 (by decide) wi_56 rfl rfl rfl rfl rfl rfl (Nat.le_of_ble_eq_true rfl) dX1_init_33 ?_
  refine N_aload_n (pc := 36) dX1_init_36 rfl 0 rfl ?_
  refine N_bipush (v := (60 : Int32)) (pc := 37) dX1_init_37 (by decide) ?_
  refine N_newa (atype := .int) (ty := .int) (pc := 39) (j := 0) (N := 60) (a0 := (60, .inl (fun _ => 0))) wi_91 rfl rfl (fun _ _ h => h) (fun _ => rfl) (by decide +kernel) (by decide +kernel) (Nat.le_of_ble_eq_true rfl) (Nat.le_of_ble_eq_true rfl) (Nat.le_of_ble_eq_true rfl) (by decide) dX1_init_39 ?_
  refine N_putF (pc := 41) (v := .ref 31) (c := 26) (ci := 1) (T := TX1) (N := 10) (fs := [.ref (adr E 27), .ref (adr E 28), .ref (adr E 29), .ref (adr E 30), .null, .int 0, .int 0, .int 0, .int 0, .int 0]) ((gs_n (by decide)).trans gs_s) (by decide) (by decide) rfl lay_X1 tyX1 tyX1_ok nmX1 4 (by decide) wi_58 rfl rfl rfl rfl rfl rfl (Nat.le_of_ble_eq_true rfl) dX1_init_41 ?_
  refine N_return (pc := 44) dX1_init_44 rfl (fun i hi => ?_) rfl rfl rfl
  rcases Nat.lt_or_ge i 26 with h | h
  · refine (gs_n (show i ≠ 26 by omega)).trans <| (gs_n (show i ≠ 31 by omega)).trans <| (gs_n (show i ≠ 26 by omega)).trans <| (gs_n (show i ≠ 30 by omega)).trans <| (gs_n (show i ≠ 26 by omega)).trans <| (gs_n (show i ≠ 29 by omega)).trans <| (gs_n (show i ≠ 26 by omega)).trans <| (gs_n (show i ≠ 28 by omega)).trans <| (gs_n (show i ≠ 26 by omega)).trans <| (gs_n (show i ≠ 27 by omega)).trans <| Eq.trans rfl (gB_lo h).symm
  · have h9 : i = 26 ∨ i = 27 ∨ i = 28 ∨ i = 29 ∨ i = 30 ∨ i = 31 := by omega
    rcases h9 with rfl | rfl | rfl | rfl | rfl | rfl <;> rfl
set_option maxRecDepth 20000 in
theorem con_X1_32 {E : En} {g : Nat → va_E} (hb : g 32 = .inr (1, [.null, .null, .null, .null, .null, .int 0, .int 0, .int 0, .int 0, .int 0])) : ConI E mi_X1_init 32 g (gB E g 32) 33 38 := by
  refine ConI.of (by decide) rfl (Nat.le_of_ble_eq_true rfl) (fun κ => ?_)
  refine N_aload_n (pc := 0) dX1_init_0 rfl 0 rfl ?_
  refine N_objInit (pc := 1) wi_46 wi_39 wi_40 (Nat.le_of_ble_eq_true rfl) (Nat.le_of_ble_eq_true rfl) dX1_init_1 ?_
  refine N_aload_n (pc := 4) dX1_init_4 rfl 0 rfl ?_
  refine N_bipush (v := (6 : Int32)) (pc := 5) dX1_init_5 (by decide) ?_
  refine N_newa (atype := .int) (ty := .int) (pc := 7) (j := 0) (N := 6) (a0 := (6, .inl (fun _ => 0))) wi_91 rfl rfl (fun _ _ h => h) (fun _ => rfl) (by decide +kernel) (by decide +kernel) (Nat.le_of_ble_eq_true rfl) (Nat.le_of_ble_eq_true rfl) (Nat.le_of_ble_eq_true rfl) (by decide) dX1_init_7 ?_
  refine N_putF (pc := 9) (v := .ref 33) (c := 32) (ci := 1) (T := TX1) (N := 10) (fs := [.null, .null, .null, .null, .null, .int 0, .int 0, .int 0, .int 0, .int 0]) ((gs_n (by decide)).trans hb) (by decide) (by decide) rfl lay_X1 tyX1 tyX1_ok nmX1 0 (by decide) wi_47 rfl rfl rfl rfl rfl rfl (Nat.le_of_ble_eq_true rfl) dX1_init_9 ?_
  refine N_aload_n (pc := 12) dX1_init_12 rfl 0 rfl ?_
  refine N_bipush (v := (6 : Int32)) (pc := 13) dX1_init_13 (by decide) ?_
  refine N_newa (atype := .int) (ty := .int) (pc := 15) (j := 0) (N := 6) (a0 := (6, .inl (fun _ => 0))) wi_91 rfl rfl (fun _ _ h => h) (fun _ => rfl) (by decide +kernel) (by decide +kernel) (Nat.le_of_ble_eq_true rfl) (Nat.le_of_ble_eq_true rfl) (Nat.le_of_ble_eq_true rfl) (by decide) dX1_init_15 ?_
  refine N_putF (pc := 17) (v := .ref 34) (c := 32) (ci := 1) (T := TX1) (N := 10) (fs := [.ref (adr E 33), .null, .null, .null, .null, .int 0, .int 0, .int 0, .int 0, .int 0]) ((gs_n (by decide)).trans gs_s) (by decide) (by decide) rfl lay_X1 tyX1 tyX1_ok nmX1 1 (by decide) wi_50 rfl rfl rfl rfl rfl rfl (Nat.le_of_ble_eq_true rfl) dX1_init_17 ?_
  refine N_aload_n (pc := 20) dX1_init_20 rfl 0 rfl ?_
  refine N_bipush (v := (6 : Int32)) (pc := 21) dX1_init_21 (by decide) ?_
  refine N_newa (atype := .int) (ty := .int) (pc := 23) (j := 0) (N := 6) (a0 := (6, .inl (fun _ => 0))) wi_91 rfl rfl (fun _ _ h => h) (fun _ => rfl) (by decide +kernel) (by decide +kernel) (Nat.le_of_ble_eq_true rfl) (Nat.le_of_ble_eq_true rfl) (Nat.le_of_ble_eq_true rfl) (by decide) dX1_init_23 ?_
  refine N_putF (pc := 25) (v := .ref 35) (c := 32) (ci := 1) (T := TX1) (N := 10) (fs := [.ref (adr E 33), .ref (adr E 34), .null, .null, .null, .int 0, .int 0, .int 0, .int 0, .int 0]) ((gs_n (by decide)).trans gs_s) (by decide) (by decide) rfl lay_X1 tyX1 tyX1_ok nmX1 2 (by decide) wi_53 rfl rfl rfl rfl rfl rfl (Nat.le_of_ble_eq_true rfl) dX1_init_25 ?_
  refine N_aload_n (pc := 28) dX1_init_28 rfl 0 rfl ?_
  refine N_bipush (v := (60 : Int32)) (pc := 29) dX1_init_29 (by decide) ?_
  refine N_newa (atype := .int) (ty := .int) (pc := 31) (j := 0) (N := 60) (a0 := (60, .inl (fun _ => 0))) wi_91 rfl rfl (fun _ _ h => h) (fun _ => rfl) (by decide +kernel) (by decide +kernel) (Nat.le_of_ble_eq_true rfl) (Nat.le_of_ble_eq_true rfl) (Nat.le_of_ble_eq_true rfl) (by decide) dX1_init_31 ?_
  refine N_putF (pc := 33) (v := .ref 36) (c := 32) (ci := 1) (T := TX1) (N := 10) (fs := [.ref (adr E 33), .ref (adr E 34), .ref (adr E 35), .null, .null, .int 0, .int 0, .int 0, .int 0, .int 0]) ((gs_n (by decide)).trans gs_s) (by decide) (by decide) rfl lay_X1 tyX1 tyX1_ok nmX1 3 (by decide) wi_56 rfl rfl rfl rfl rfl rfl (Nat.le_of_ble_eq_true rfl) dX1_init_33 ?_
  refine N_aload_n (pc := 36) dX1_init_36 rfl 0 rfl ?_
  refine N_bipush (v := (60 : Int32)) (pc := 37) dX1_init_37 (by decide) ?_
  refine N_newa (atype := .int) (ty := .int) (pc := 39) (j := 0) (N := 60) (a0 := (60, .inl (fun _ => 0))) wi_91 rfl rfl (fun _ _ h => h) (fun _ => rfl) (by decide +kernel) (by decide +kernel) (Nat.le_of_ble_eq_true rfl) (Nat.le_of_ble_eq_true rfl) (Nat.le_of_ble_eq_true rfl) (by decide) dX1_init_39 ?_
  refine N_putF (pc := 41) (v := .ref 37) (c := 32) (ci := 1) (T := TX1) (N := 10) (fs := [.ref (adr E 33), .ref (adr E 34), .ref (adr E 35), .ref (adr E 36), .null, .int 0, .int 0, .int 0, .int 0, .int 0]) ((gs_n (by decide)).trans gs_s) (by decide) (by decide) rfl lay_X1 tyX1 tyX1_ok nmX1 4 (by decide) wi_58 rfl rfl rfl rfl rfl rfl (Nat.le_of_ble_eq_true rfl) dX1_init_41 ?_
  refine N_return (pc := 44) dX1_init_44 rfl (fun i hi => ?_) rfl rfl rfl
  rcases Nat.lt_or_ge i 32 with h | h
  · refine (gs_n (show i ≠ 32 by omega)).trans <| (gs_n (show i ≠ 37 by omega)).trans <| (gs_n (show i ≠ 32 by omega)).trans <| (gs_n (show i ≠ 36 by omega)).trans <| (gs_n (show i ≠ 32 by omega)).trans <| (gs_n (show i ≠ 35 by omega)).trans <| (gs_n (show i ≠ 32 by omega)).trans <| (gs_n (show i ≠ 34 by omega)).trans <| (gs_n (show i ≠ 32 by omega)).trans <| (gs_n (show i ≠ 33 by omega)).trans <| Eq.trans rfl (gB_lo h).symm
  · have h9 : i = 32 ∨ i = 33 ∨ i = 34 ∨ i = 35 ∨ i = 36 ∨ i = 37 := by omega
    rcases h9 with rfl | rfl | rfl | rfl | rfl | rfl <;> rfl
set_option maxRecDepth 20000 in
theorem con_X1_38 {E : En} {g : Nat → va_E} (hb : g 38 = .inr (1, [.null, .null, .null, .null, .null, .int 0, .int 0, .int 0, .int 0, .int 0])) : ConI E mi_X1_init 38 g (gB E g 38) 39 44 := by
  refine ConI.of (by decide) rfl (Nat.le_of_ble_eq_true rfl) (fun κ => ?_)
  refine N_aload_n (pc := 0) dX1_init_0 rfl 0 rfl ?_
  refine N_objInit (pc := 1) wi_46 wi_39 wi_40 (Nat.le_of_ble_eq_true rfl) (Nat.le_of_ble_eq_true rfl) dX1_init_1 ?_
  refine N_aload_n (pc := 4) dX1_init_4 rfl 0 rfl ?_
  refine N_bipush (v := (6 : Int32)) (pc := 5) dX1_init_5 (by decide) ?_
  refine N_newa (atype := .int) (ty := .int) (pc := 7) (j := 0) (N := 6) (a0 := (6, .inl (fun _ => 0))) wi_91 rfl rfl (fun _ _ h => h) (fun _ => rfl) (by decide +kernel) (by decide +kernel) (Nat.le_of_ble_eq_true rfl) (Nat.le_of_ble_eq_true rfl) (Nat.le_of_ble_eq_true rfl) (by decide) dX1_init_7 ?_
  refine N_putF (pc := 9) (v := .ref 39) (c := 38) (ci := 1) (T := TX1) (N := 10) (fs := [.null, .null, .null, .null, .null, .int 0, .int 0, .int 0, .int 0, .int 0]) ((gs_n (by decide)).trans hb) (by decide) (by decide) rfl lay_X1 tyX1 tyX1_ok nmX1 0 (by decide) wi_47 rfl rfl rfl rfl rfl rfl (Nat.le_of_ble_eq_true rfl) dX1_init_9 ?_
  refine N_aload_n (pc := 12) dX1_init_12 rfl 0 rfl ?_
  refine N_bipush (v := (6 : Int32)) (pc := 13) dX1_init_13 (by decide) ?_
  refine N_newa (atype := .int) (ty := .int) (pc := 15) (j := 0) (N := 6) (a0 := (6, .inl (fun _ => 0))) wi_91 rfl rfl (fun _ _ h => h) (fun _ => rfl) (by decide +kernel) (by decide +kernel) (Nat.le_of_ble_eq_true rfl) (Nat.le_of_ble_eq_true rfl) (Nat.le_of_ble_eq_true rfl) (by decide) dX1_init_15 ?_
  refine N_putF (pc := 17) (v := .ref 40) (c := 38) (ci := 1) (T := TX1) (N := 10) (fs := [.ref (adr E 39), .null, .null, .null, .null, .int 0, .int 0, .int 0, .int 0, .int 0]) ((gs_n (by decide)).trans gs_s) (by decide) (by decide) rfl lay_X1 tyX1 tyX1_ok nmX1 1 (by decide) wi_50 rfl rfl rfl rfl rfl rfl (Nat.le_of_ble_eq_true rfl) dX1_init_17 ?_
  refine N_aload_n (pc := 20) dX1_init_20 rfl 0 rfl ?_
  refine N_bipush (v := (6 : Int32)) (pc := 21) dX1_init_21 (by decide) ?_
  refine N_newa (atype := .int) (ty := .int) (pc := 23) (j := 0) (N := 6) (a0 := (6, .inl (fun _ => 0))) wi_91 rfl rfl (fun _ _ h => h) (fun _ => rfl) (by decide +kernel) (by decide +kernel) (Nat.le_of_ble_eq_true rfl) (Nat.le_of_ble_eq_true rfl) (Nat.le_of_ble_eq_true rfl) (by decide) dX1_init_23 ?_
  refine N_putF (pc := 25) (v := .ref 41) (c := 38) (ci := 1) (T := TX1) (N := 10) (fs := [.ref (adr E 39), .ref (adr E 40), .null, .null, .null, .int 0, .int 0, .int 0, .int 0, .int 0]) ((gs_n (by decide)).trans gs_s) (by decide) (by decide) rfl lay_X1 tyX1 tyX1_ok nmX1 2 (by decide) wi_53 rfl rfl rfl rfl rfl rfl (Nat.le_of_ble_eq_true rfl) dX1_init_25 ?_
  refine N_aload_n (pc := 28) dX1_init_28 rfl 0 rfl ?_
  refine N_bipush (v := (60 : Int32)) (pc := 29) dX1_init_29 (by decide) ?_
  refine N_newa (atype := .int) (ty := .int) (pc := 31) (j := 0) (N := 60) (a0 := (60, .inl (fun _ => 0))) wi_91 rfl rfl (fun _ _ h => h) (fun _ => rfl) (by decide +kernel) (by decide +kernel) (Nat.le_of_ble_eq_true rfl) (Nat.le_of_ble_eq_true rfl) (Nat.le_of_ble_eq_true rfl) (by decide) dX1_init_31 ?_
  refine N_putF (pc := 33) (v := .ref 42) (c := 38) (ci := 1) (T := TX1) (N := 10) (fs := [.ref (adr E 39), .ref (adr E 40), .ref (adr E 41), .null, .null, .int 0, .int 0, .int 0, .int 0, .int 0]) ((gs_n (by decide)).trans gs_s) (by decide) (by decide) rfl lay_X1 tyX1 tyX1_ok nmX1 3 (by decide) wi_56 rfl rfl rfl rfl rfl rfl (Nat.le_of_ble_eq_true rfl) dX1_init_33 ?_
  refine N_aload_n (pc := 36) dX1_init_36 rfl 0 rfl ?_
  refine N_bipush (v := (60 : Int32)) (pc := 37) dX1_init_37 (by decide) ?_
  refine N_newa (atype := .int) (ty := .int) (pc := 39) (j := 0) (N := 60) (a0 := (60, .inl (fun _ => 0))) wi_91 rfl rfl (fun _ _ h => h) (fun _ => rfl) (by decide +kernel) (by decide +kernel) (Nat.le_of_ble_eq_true rfl) (Nat.le_of_ble_eq_true rfl) (Nat.le_of_ble_eq_true rfl) (by decide) dX1_init_39 ?_
  refine N_putF (pc := 41) (v := .ref 43) (c := 38) (ci := 1) (T := TX1) (N := 10) (fs := [.ref (adr E 39), .ref (adr E 40), .ref (adr E 41), .ref (adr E 42), .null, .int 0, .int 0, .int 0, .int 0, .int 0]) ((gs_n (by decide)).trans gs_s) (by decide) (by decide) rfl lay_X1 tyX1 tyX1_ok nmX1 4 (by decide) wi_58 rfl rfl rfl rfl rfl rfl (Nat.le_of_ble_eq_true rfl) dX1_init_41 ?_
  refine N_return (pc := 44) dX1_init_44 rfl (fun i hi => ?_) rfl rfl rfl
  rcases Nat.lt_or_ge i 38 with h | h
  · refine (gs_n (show i ≠ 38 by omega)).trans <| (gs_n (show i ≠ 43 by omega)).trans <| (gs_n (show i ≠ 38 by omega)).trans <| (gs_n (show i ≠ 42 by omega)).trans <| (gs_n (show i ≠ 38 by omega)).trans <| (gs_n (show i ≠ 41 by omega)).trans <| (gs_n (show i ≠ 38 by omega)).trans <| (gs_n (show i ≠ 40 by omega)).trans <| (gs_n (show i ≠ 38 by omega)).trans <| (gs_n (show i ≠ 39 by omega)).trans <| Eq.trans rfl (gB_lo h).symm
  · have h9 : i = 38 ∨ i = 39 ∨ i = 40 ∨ i = 41 ∨ i = 42 ∨ i = 43 := by omega
    rcases h9 with rfl | rfl | rfl | rfl | rfl | rfl <;> rfl

/-! ===== the law's beginning ===== -/
theorem wi_95 : Cond.classLink RL 8 RX3 ∈ SWL := SWL_mem 95 (by decide +kernel) rfl
theorem wi_96 : Cond.instantiable RX3 7 ∈ SWL := SWL_mem 96 (by decide +kernel) rfl
theorem wi_97 : Cond.methodLink RL 96 yX3_init ∈ SWL := SWL_mem 97 (by decide +kernel) rfl
theorem wi_1017 : Cond.classLink RL 97 RX4 ∈ SWL := SWL_mem 1017 (by decide +kernel) rfl
theorem wi_1018 : Cond.instantiable RX4 22 ∈ SWL := SWL_mem 1018 (by decide +kernel) rfl
theorem wi_1019 : Cond.methodLink RL 99 yX4_init ∈ SWL := SWL_mem 1019 (by decide +kernel) rfl
theorem wi_1577 : Cond.arrayClass .long ∈ SWL := SWL_mem 1577 (by decide +kernel) rfl
set_option maxRecDepth 20000 in
theorem lw_begin {κ : Kx} {E : En} {Q : State → Prop} {g : Nat → va_E} (kk : JN κ E mi_law Q 63 42773 (lwL 0) (jc E W0) 63 23 []) : JN κ E mi_law Q 0 0 [(0, .ref 63)] g 0 0 [] := by
  refine N_new (pc := 0) (ci := 3) (C := RX3) (T := TX3) (N := 7) (fs := [.null, .null, .null, .null, .null, .int 0, .int 0]) lay_X3 tyX3 tyX3_ok wi_95 wi_96 wi_80 rfl dv_X3 (Nat.le_of_ble_eq_true rfl) (Nat.le_of_ble_eq_true rfl) (by decide) dL_law_0 ?_
  refine N_dup (pc := 3) dL_law_3 rfl ?_
  refine N_initL (pc := 4) (gi := mi_X3_init) mn_X3 wi_97 (con_X3_0 gs_s) (by decide) (by decide) rfl (rm_law (Nat.le_of_ble_eq_true rfl) (Nat.le_of_ble_eq_true rfl) (Nat.le_of_ble_eq_true rfl) (Nat.le_of_ble_eq_true rfl)) (Nat.le_of_ble_eq_true rfl) dL_law_4 ?_
  refine N_astore_n (pc := 7) (L' := [(0, .ref 63), (1, .ref 0)]) dL_law_7 rfl (by decide) [1, 0] rfl ?_
  refine N_new (pc := 8) (ci := 4) (C := RX4) (T := TX4) (N := 22) (fs := [.int 0, .null, .int 0, .null, .null, .int 0, .null, .int 0, .null, .int 0, .int 0, .null, .null, .null, .int 0, .int 0, .int 0, .int 0, .int 0, .int 0, .int 0, .long 0]) lay_X4 tyX4 tyX4_ok wi_1017 wi_1018 wi_84 rfl dv_X4 (Nat.le_of_ble_eq_true rfl) (Nat.le_of_ble_eq_true rfl) (by decide) dL_law_8 ?_
  refine N_dup (pc := 11) dL_law_11 rfl ?_
  refine N_initL (pc := 12) (gi := mi_X4_init) mn_X4 wi_1019 (con_X4_53 gs_s) (by decide) (by decide) rfl (rm_law (Nat.le_of_ble_eq_true rfl) (Nat.le_of_ble_eq_true rfl) (Nat.le_of_ble_eq_true rfl) (Nat.le_of_ble_eq_true rfl)) (Nat.le_of_ble_eq_true rfl) dL_law_12 ?_
  refine N_cong (g' := jc E W0) (fun i hi => ?_) ?_
  · by_cases e : i < 53
    · rw [gB_lo e, gs_n (by omega)]
    · rw [gB_hi (by omega)]
  refine N_astore_n (pc := 15) (L' := [(0, .ref 63), (1, .ref 0), (2, .ref 53)]) dL_law_15 rfl (by decide) [1, 2, 0] rfl ?_
  refine N_iconst (v := (1 : Int32)) (pc := 16) dL_law_16 (by decide) ?_
  refine N_newa (atype := .long) (ty := .long) (pc := 17) (j := 2) (N := 1) (a0 := (1, .inr (.inl (fun _ => 0)))) wi_1577 rfl rfl (fun _ _ h => h) (fun _ => rfl) (by decide +kernel) (by decide +kernel) (Nat.le_of_ble_eq_true rfl) (Nat.le_of_ble_eq_true rfl) (Nat.le_of_ble_eq_true rfl) (by decide) dL_law_17 ?_
  refine N_cong (g' := jc E W0) (fun i hi => ?_) ?_
  · by_cases e : i = 62
    · rw [e, gs_s]; rfl
    · rw [gs_n e]
  refine N_astore_n (pc := 19) (L' := [(0, .ref 63), (1, .ref 0), (2, .ref 53), (3, .ref 62)]) dL_law_19 rfl (by decide) [1, 2, 3, 0] rfl ?_
  refine N_iconst (v := (0 : Int32)) (pc := 20) dL_law_20 (by decide) ?_
  refine N_istore (pc := 21) (L' := lwL 0) dL_law_21 (by decide) [1, 2, 3, 4, 0] rfl ?_
  exact kk
theorem JN_J {κ : Kx} {E : En} {f : MI} {Q : State → Prop} {k n pc : Nat} {L : List (Nat × Value)} {st : List Value} (hCx : CxN κ E f → Cx κ E f) (h : J κ E f Q k n L W0 pc st) : JN κ E f Q k n L (jc E W0) 63 pc st := fun hC _ H locs ls hP hS hl => h (hCx hC) H locs ls hP hS hl
def P0 : Pst := (0, 0, 0, -1, fun _ => 0, fun _ => 0, fun _ => 0, fun _ => 0, fun _ => 0)
theorem P0_W : pW P0 := ⟨Nat.zero_le _, by decide, fun i hi => absurd hi (Nat.not_lt_zero i), rfl, Nat.zero_le _, ⟨by decide, by decide⟩, trivial⟩
theorem W0_Inv : Inv W0 := by
  refine ⟨(P0, P0, false, 0, fun _ => P0, 0, fun _ => 0), ⟨P0_W, fun h => (by cases h), Nat.zero_le _, fun i hi => absurd hi (Nat.not_lt_zero i), Nat.zero_le _, fun i hi => absurd hi (Nat.not_lt_zero i)⟩, ⟨⟨rfl, rfl, rfl, rfl, fun h => absurd rfl h, fun i hi => absurd hi (Nat.not_lt_zero i), fun i hi => absurd hi (Nat.not_lt_zero i), fun i hi => absurd hi (Nat.not_lt_zero i), fun i hi => absurd hi (Nat.not_lt_zero i), fun i hi => absurd hi (Nat.not_lt_zero i)⟩, rfl, fun h => (by cases h), rfl, fun i hi => absurd hi (Nat.not_lt_zero i), ⟨fun i hi => ?_, fun i j hi hj h => ?_⟩, rfl, fun i hi => absurd hi (Nat.not_lt_zero i)⟩, ⟨⟨rfl, rfl, rfl, rfl, fun i hi => absurd hi (Nat.not_lt_zero i), fun i hi => absurd hi (Nat.not_lt_zero i), fun i hi => absurd hi (Nat.not_lt_zero i), fun i hi => absurd hi (Nat.not_lt_zero i)⟩, rfl, fun h => (by cases h), rfl, fun i hi => absurd hi (Nat.not_lt_zero i), rfl, fun i hi => absurd hi (Nat.not_lt_zero i)⟩⟩
  · have e : W0.2.2 i = 14 + 6 * i := rfl
    rw [e]
    unfold isSv
    omega
  · have e : W0.2.2 i = 14 + 6 * i := rfl
    have e2 : W0.2.2 j = 14 + 6 * j := rfl
    rw [e, e2] at h
    omega

/-! ===== walks of the methods, 15 ===== -/
set_option maxHeartbeats 4000000 in
set_option maxRecDepth 100000 in
theorem k_X4_fewestSlides {E : En} (M : Wd) {r : Int32} {M' : Wd} (h : F_X4_fewestSlides M = some (r, M')) : Con E mi_X4_fewestSlides [.ref 53] M (.inl (some (.int r))) M' := by
  unfold F_X4_fewestSlides at h
  refine Con.of (by decide) rfl (Nat.le_of_ble_eq_true rfl) (fun κ => ?_)
  show J κ E mi_X4_fewestSlides _ 0 0 [(0, .ref 53)] M 0 []
  refine J_aload_n (pc := 0) dX4_fewestSlides_0 rfl 0 rfl ?_
  refine J_aload_n (pc := 1) dX4_fewestSlides_1 rfl 0 rfl ?_
  refine J_iconst (v := (3 : Int32)) (pc := 2) dX4_fewestSlides_2 (by decide) ?_
  obtain ⟨v1, M2, hc3, h⟩ := obind2_e h
  refine J_callV (g := mi_X4_fewest) (ci := 4) (pc := 3) [.int (3 : Int32)] [.ref 53] mv_X4_fewest w_1449 (k_X4_fewest (3 : Int32) _ hc3) rfl (by decide) rfl rfl rfl ⟨⟨Nat.le_of_ble_eq_true rfl, Nat.le_of_ble_eq_true rfl⟩, Nat.le_of_ble_eq_true rfl, Nat.le_of_ble_eq_true rfl⟩ (Nat.le_of_ble_eq_true rfl) dX4_fewestSlides_3 (Jk_v rfl rfl fun hok4 => ?_)
  obtain ⟨v5, M6, hc7, h⟩ := obind2_e h
  refine J_callV (g := mi_X4_told) (ci := 4) (pc := 6) [.int v1] [] mv_X4_told w_1349 (k_X4_told v1 _ hc7) rfl (by decide) rfl rfl rfl ⟨⟨Nat.le_of_ble_eq_true rfl, Nat.le_of_ble_eq_true rfl⟩, Nat.le_of_ble_eq_true rfl, Nat.le_of_ble_eq_true rfl⟩ (Nat.le_of_ble_eq_true rfl) dX4_fewestSlides_6 (Jk_v rfl rfl fun hok8 => ?_)
  cases h
  exact J_ireturn dX4_fewestSlides_9 rfl rfl rfl rfl rfl
set_option maxHeartbeats 4000000 in
set_option maxRecDepth 100000 in
theorem k_X4_fewestSlidesFromEnds {E : En} (M : Wd) {r : Int32} {M' : Wd} (h : F_X4_fewestSlidesFromEnds M = some (r, M')) : Con E mi_X4_fewestSlidesFromEnds [.ref 53] M (.inl (some (.int r))) M' := by
  unfold F_X4_fewestSlidesFromEnds at h
  refine Con.of (by decide) rfl (Nat.le_of_ble_eq_true rfl) (fun κ => ?_)
  show J κ E mi_X4_fewestSlidesFromEnds _ 0 0 [(0, .ref 53)] M 0 []
  refine J_aload_n (pc := 0) dX4_fewestSlidesFromEnds_0 rfl 0 rfl ?_
  refine J_aload_n (pc := 1) dX4_fewestSlidesFromEnds_1 rfl 0 rfl ?_
  obtain ⟨v1, M2, hc3, h⟩ := obind2_e h
  refine J_callV (g := mi_X4_fewestEnds) (ci := 4) (pc := 2) [] [.ref 53] mv_X4_fewestEnds w_1465 (k_X4_fewestEnds _ hc3) rfl (by decide) rfl rfl rfl ⟨⟨Nat.le_of_ble_eq_true rfl, Nat.le_of_ble_eq_true rfl⟩, Nat.le_of_ble_eq_true rfl, Nat.le_of_ble_eq_true rfl⟩ (Nat.le_of_ble_eq_true rfl) dX4_fewestSlidesFromEnds_2 (Jk_v rfl rfl fun hok4 => ?_)
  obtain ⟨v5, M6, hc7, h⟩ := obind2_e h
  refine J_callV (g := mi_X4_told) (ci := 4) (pc := 5) [.int v1] [] mv_X4_told w_1349 (k_X4_told v1 _ hc7) rfl (by decide) rfl rfl rfl ⟨⟨Nat.le_of_ble_eq_true rfl, Nat.le_of_ble_eq_true rfl⟩, Nat.le_of_ble_eq_true rfl, Nat.le_of_ble_eq_true rfl⟩ (Nat.le_of_ble_eq_true rfl) dX4_fewestSlidesFromEnds_5 (Jk_v rfl rfl fun hok8 => ?_)
  cases h
  exact J_ireturn dX4_fewestSlidesFromEnds_8 rfl rfl rfl rfl rfl
set_option maxHeartbeats 4000000 in
set_option maxRecDepth 100000 in
theorem k_X4_fewestSteps {E : En} (M : Wd) {r : Int32} {M' : Wd} (h : F_X4_fewestSteps M = some (r, M')) : Con E mi_X4_fewestSteps [.ref 53] M (.inl (some (.int r))) M' := by
  unfold F_X4_fewestSteps at h
  refine Con.of (by decide) rfl (Nat.le_of_ble_eq_true rfl) (fun κ => ?_)
  show J κ E mi_X4_fewestSteps _ 0 0 [(0, .ref 53)] M 0 []
  refine J_aload_n (pc := 0) dX4_fewestSteps_0 rfl 0 rfl ?_
  refine J_aload_n (pc := 1) dX4_fewestSteps_1 rfl 0 rfl ?_
  refine J_iconst (v := (1 : Int32)) (pc := 2) dX4_fewestSteps_2 (by decide) ?_
  obtain ⟨v1, M2, hc3, h⟩ := obind2_e h
  refine J_callV (g := mi_X4_fewest) (ci := 4) (pc := 3) [.int (1 : Int32)] [.ref 53] mv_X4_fewest w_1449 (k_X4_fewest (1 : Int32) _ hc3) rfl (by decide) rfl rfl rfl ⟨⟨Nat.le_of_ble_eq_true rfl, Nat.le_of_ble_eq_true rfl⟩, Nat.le_of_ble_eq_true rfl, Nat.le_of_ble_eq_true rfl⟩ (Nat.le_of_ble_eq_true rfl) dX4_fewestSteps_3 (Jk_v rfl rfl fun hok4 => ?_)
  obtain ⟨v5, M6, hc7, h⟩ := obind2_e h
  refine J_callV (g := mi_X4_told) (ci := 4) (pc := 6) [.int v1] [] mv_X4_told w_1349 (k_X4_told v1 _ hc7) rfl (by decide) rfl rfl rfl ⟨⟨Nat.le_of_ble_eq_true rfl, Nat.le_of_ble_eq_true rfl⟩, Nat.le_of_ble_eq_true rfl, Nat.le_of_ble_eq_true rfl⟩ (Nat.le_of_ble_eq_true rfl) dX4_fewestSteps_6 (Jk_v rfl rfl fun hok8 => ?_)
  cases h
  exact J_ireturn dX4_fewestSteps_9 rfl rfl rfl rfl rfl
set_option maxHeartbeats 4000000 in
set_option maxRecDepth 100000 in
theorem k_X4_leastFuel {E : En} (M : Wd) {r : Int32} {M' : Wd} (h : F_X4_leastFuel M = some (r, M')) : Con E mi_X4_leastFuel [.ref 53] M (.inl (some (.int r))) M' := by
  unfold F_X4_leastFuel at h
  refine Con.of (by decide) rfl (Nat.le_of_ble_eq_true rfl) (fun κ => ?_)
  show J κ E mi_X4_leastFuel _ 0 0 [(0, .ref 53)] M 0 []
  refine J_aload_n (pc := 0) dX4_leastFuel_0 rfl 0 rfl ?_
  refine J_aload_n (pc := 1) dX4_leastFuel_1 rfl 0 rfl ?_
  obtain ⟨v1, M2, hc3, h⟩ := obind2_e h
  refine J_callV (g := mi_X4_cheapest) (ci := 4) (pc := 2) [] [.ref 53] mv_X4_cheapest w_1477 (k_X4_cheapest _ hc3) rfl (by decide) rfl rfl rfl ⟨⟨Nat.le_of_ble_eq_true rfl, Nat.le_of_ble_eq_true rfl⟩, Nat.le_of_ble_eq_true rfl, Nat.le_of_ble_eq_true rfl⟩ (Nat.le_of_ble_eq_true rfl) dX4_leastFuel_2 (Jk_v rfl rfl fun hok4 => ?_)
  obtain ⟨v5, M6, hc7, h⟩ := obind2_e h
  refine J_callV (g := mi_X4_told) (ci := 4) (pc := 5) [.int v1] [] mv_X4_told w_1349 (k_X4_told v1 _ hc7) rfl (by decide) rfl rfl rfl ⟨⟨Nat.le_of_ble_eq_true rfl, Nat.le_of_ble_eq_true rfl⟩, Nat.le_of_ble_eq_true rfl, Nat.le_of_ble_eq_true rfl⟩ (Nat.le_of_ble_eq_true rfl) dX4_leastFuel_5 (Jk_v rfl rfl fun hok8 => ?_)
  cases h
  exact J_ireturn dX4_leastFuel_8 rfl rfl rfl rfl rfl
set_option maxHeartbeats 4000000 in
set_option maxRecDepth 100000 in
theorem k_X4_leastFuelByRounds {E : En} (M : Wd) {r : Int32} {M' : Wd} (h : F_X4_leastFuelByRounds M = some (r, M')) : Con E mi_X4_leastFuelByRounds [.ref 53] M (.inl (some (.int r))) M' := by
  unfold F_X4_leastFuelByRounds at h
  refine Con.of (by decide) rfl (Nat.le_of_ble_eq_true rfl) (fun κ => ?_)
  show J κ E mi_X4_leastFuelByRounds _ 0 0 [(0, .ref 53)] M 0 []
  refine J_aload_n (pc := 0) dX4_leastFuelByRounds_0 rfl 0 rfl ?_
  refine J_aload_n (pc := 1) dX4_leastFuelByRounds_1 rfl 0 rfl ?_
  obtain ⟨v1, M2, hc3, h⟩ := obind2_e h
  refine J_callV (g := mi_X4_cheapest) (ci := 4) (pc := 2) [] [.ref 53] mv_X4_cheapest w_1477 (k_X4_cheapest _ hc3) rfl (by decide) rfl rfl rfl ⟨⟨Nat.le_of_ble_eq_true rfl, Nat.le_of_ble_eq_true rfl⟩, Nat.le_of_ble_eq_true rfl, Nat.le_of_ble_eq_true rfl⟩ (Nat.le_of_ble_eq_true rfl) dX4_leastFuelByRounds_2 (Jk_v rfl rfl fun hok4 => ?_)
  obtain ⟨v5, M6, hc7, h⟩ := obind2_e h
  refine J_callV (g := mi_X4_told) (ci := 4) (pc := 5) [.int v1] [] mv_X4_told w_1349 (k_X4_told v1 _ hc7) rfl (by decide) rfl rfl rfl ⟨⟨Nat.le_of_ble_eq_true rfl, Nat.le_of_ble_eq_true rfl⟩, Nat.le_of_ble_eq_true rfl, Nat.le_of_ble_eq_true rfl⟩ (Nat.le_of_ble_eq_true rfl) dX4_leastFuelByRounds_5 (Jk_v rfl rfl fun hok8 => ?_)
  cases h
  exact J_ireturn dX4_leastFuelByRounds_8 rfl rfl rfl rfl rfl
set_option maxHeartbeats 4000000 in
set_option maxRecDepth 100000 in
theorem k_X4_nextSlide {E : En} (M : Wd) {r : Int32} {M' : Wd} (h : F_X4_nextSlide M = some (r, M')) : Con E mi_X4_nextSlide [.ref 53] M (.inl (some (.int r))) M' := by
  unfold F_X4_nextSlide at h
  refine Con.of (by decide) rfl (Nat.le_of_ble_eq_true rfl) (fun κ => ?_)
  show J κ E mi_X4_nextSlide _ 0 0 [(0, .ref 53)] M 0 []
  refine J_aload_n (pc := 0) dX4_nextSlide_0 rfl 0 rfl ?_
  obtain ⟨v1, M2, hc3, h⟩ := obind2_e h
  refine J_callV (g := mi_X4_planned) (ci := 4) (pc := 1) [] [] mv_X4_planned w_1214 (k_X4_planned _ hc3) rfl (by decide) rfl rfl rfl ⟨⟨Nat.le_of_ble_eq_true rfl, Nat.le_of_ble_eq_true rfl⟩, Nat.le_of_ble_eq_true rfl, Nat.le_of_ble_eq_true rfl⟩ (Nat.le_of_ble_eq_true rfl) dX4_nextSlide_1 (Jk_v rfl rfl fun hok4 => ?_)
  obtain ⟨v5, e6, h⟩ := bnd_e h
  have hb8 : isB v5 := by rw [e6]; repeat (first | exact Or.inl rfl | exact Or.inr rfl | assumption | exact okB_b (by assumption) | apply isB_ite)
  refine J_join [(0, .ref 53)] M2 12 [.int v5] ?_ (fun hJ => ?_)
  · refine J_istore_n (pc := 12) dX4_nextSlide_12 rfl (Nat.le_of_ble_eq_true rfl) [1, 0] rfl ?_
    refine J_aload_n (pc := 13) dX4_nextSlide_13 rfl 0 rfl ?_
    refine J_iload_n (pc := 14) dX4_nextSlide_14 rfl 1 rfl ?_
    obtain ⟨v9, e10, h⟩ := bnd_e h
    have hb12 : isB v9 := by rw [e10]; repeat (first | exact Or.inl rfl | exact Or.inr rfl | assumption | exact okB_b (by assumption) | apply isB_ite)
    refine J_join [(0, .ref 53)] M2 23 [.int v9, .ref 53] ?_ (fun hJ => ?_)
    · obtain ⟨v13, M14, hc15, h⟩ := obind2_e h
      refine J_callV (g := mi_X4_refused) (ci := 4) (pc := 23) [.int v9] [] mv_X4_refused w_1120 (k_X4_refused v9 _ hc15) rfl (by decide) rfl rfl rfl ⟨⟨Nat.le_of_ble_eq_true rfl, Nat.le_of_ble_eq_true rfl⟩, Nat.le_of_ble_eq_true rfl, Nat.le_of_ble_eq_true rfl⟩ (Nat.le_of_ble_eq_true rfl) dX4_nextSlide_23 (Jk_v rfl rfl fun hok16 => ?_)
      refine J_if_eq (pc := 26) (tgt := 33) dX4_nextSlide_26 (by decide) (fun c17 => ?_) (fun c17 => ?_)
      · replace h := ifp c17 h
        refine J_aload_n (pc := 33) dX4_nextSlide_33 rfl 0 rfl ?_
        obtain ⟨v18, hc19, h⟩ := obind_e h
        refine J_callV (g := mi_X4_next) (ci := 4) (pc := 34) [] [] mv_X4_next w_1262 (k_X4_next _ hc19) rfl (by decide) rfl rfl rfl ⟨⟨Nat.le_of_ble_eq_true rfl, Nat.le_of_ble_eq_true rfl⟩, Nat.le_of_ble_eq_true rfl, Nat.le_of_ble_eq_true rfl⟩ (Nat.le_of_ble_eq_true rfl) dX4_nextSlide_34 (Jk_v rfl rfl fun hok20 => ?_)
        cases h
        exact J_ireturn dX4_nextSlide_37 rfl rfl rfl rfl rfl
      · replace h := ifn c17 h
        refine J_iconst (v := (0 : Int32)) (pc := 29) dX4_nextSlide_29 (by decide) ?_
        refine J_goto (pc := 30) (tgt := 37) dX4_nextSlide_30 (by decide) ?_
        cases h
        exact J_ireturn dX4_nextSlide_37 rfl rfl rfl rfl rfl
    · refine J_if_eq (pc := 15) (tgt := 22) dX4_nextSlide_15 (by decide) (fun c11 => ?_) (fun c11 => ?_)
      · refine J_iconst (v := (1 : Int32)) (pc := 22) dX4_nextSlide_22 (by decide) ?_
        refine J_sub [0] rfl ?_
        refine J_topi (y := v9) (by rw [e10, if_pos c11]) ?_
        exact hJ
      · refine J_iconst (v := (0 : Int32)) (pc := 18) dX4_nextSlide_18 (by decide) ?_
        refine J_goto (pc := 19) (tgt := 23) dX4_nextSlide_19 (by decide) ?_
        refine J_sub [0] rfl ?_
        refine J_topi (y := v9) (by rw [e10, if_neg c11]) ?_
        exact hJ
  · refine J_if_le (pc := 4) (tgt := 11) dX4_nextSlide_4 (by decide) (fun c7 => ?_) (fun c7 => ?_)
    · refine J_iconst (v := (0 : Int32)) (pc := 11) dX4_nextSlide_11 (by decide) ?_
      refine J_topi (y := v5) (by rw [e6, if_pos c7]) ?_
      exact hJ
    · refine J_iconst (v := (1 : Int32)) (pc := 7) dX4_nextSlide_7 (by decide) ?_
      refine J_goto (pc := 8) (tgt := 12) dX4_nextSlide_8 (by decide) ?_
      refine J_topi (y := v5) (by rw [e6, if_neg c7]) ?_
      exact hJ
set_option maxHeartbeats 4000000 in
set_option maxRecDepth 100000 in
theorem k_X4_nextCar {E : En} (M : Wd) {r : Int32} {M' : Wd} (h : F_X4_nextCar M = some (r, M')) : Con E mi_X4_nextCar [.ref 53] M (.inl (some (.int r))) M' := by
  unfold F_X4_nextCar at h
  refine Con.of (by decide) rfl (Nat.le_of_ble_eq_true rfl) (fun κ => ?_)
  show J κ E mi_X4_nextCar _ 0 0 [(0, .ref 53)] M 0 []
  refine J_aload_n (pc := 0) dX4_nextCar_0 rfl 0 rfl ?_
  obtain ⟨v1, M2, hc3, h⟩ := obind2_e h
  refine J_callV (g := mi_X4_nextSlide) (ci := 4) (pc := 1) [] [] mv_X4_nextSlide w_1497 (k_X4_nextSlide _ hc3) rfl (by decide) rfl rfl rfl ⟨⟨Nat.le_of_ble_eq_true rfl, Nat.le_of_ble_eq_true rfl⟩, Nat.le_of_ble_eq_true rfl, Nat.le_of_ble_eq_true rfl⟩ (Nat.le_of_ble_eq_true rfl) dX4_nextCar_1 (Jk_v rfl rfl fun hok4 => ?_)
  refine J_bipush (v := (8 : Int32)) (pc := 4) dX4_nextCar_4 (by decide) ?_
  refine J_idiv (pc := 6) dX4_nextCar_6 (by decide) ?_
  cases h
  exact J_ireturn dX4_nextCar_7 rfl rfl rfl rfl rfl
set_option maxHeartbeats 4000000 in
set_option maxRecDepth 100000 in
theorem k_X4_nextChange {E : En} (M : Wd) {r : Int32} {M' : Wd} (h : F_X4_nextChange M = some (r, M')) : Con E mi_X4_nextChange [.ref 53] M (.inl (some (.int r))) M' := by
  unfold F_X4_nextChange at h
  refine Con.of (by decide) rfl (Nat.le_of_ble_eq_true rfl) (fun κ => ?_)
  show J κ E mi_X4_nextChange _ 0 0 [(0, .ref 53)] M 0 []
  refine J_aload_n (pc := 0) dX4_nextChange_0 rfl 0 rfl ?_
  obtain ⟨v1, M2, hc3, h⟩ := obind2_e h
  refine J_callV (g := mi_X4_nextSlide) (ci := 4) (pc := 1) [] [] mv_X4_nextSlide w_1497 (k_X4_nextSlide _ hc3) rfl (by decide) rfl rfl rfl ⟨⟨Nat.le_of_ble_eq_true rfl, Nat.le_of_ble_eq_true rfl⟩, Nat.le_of_ble_eq_true rfl, Nat.le_of_ble_eq_true rfl⟩ (Nat.le_of_ble_eq_true rfl) dX4_nextChange_1 (Jk_v rfl rfl fun hok4 => ?_)
  refine J_istore_n (pc := 4) dX4_nextChange_4 rfl (Nat.le_of_ble_eq_true rfl) [1, 0] rfl ?_
  refine J_aload_n (pc := 5) dX4_nextChange_5 rfl 0 rfl ?_
  refine get_53_0 (pc := 6) w_1023 dX4_nextChange_6 ?_
  refine J_if_le (pc := 9) (tgt := 16) dX4_nextChange_9 (by decide) (fun c5 => ?_) (fun c5 => ?_)
  · replace h := ifp c5 h
    refine J_iload_n (pc := 16) dX4_nextChange_16 rfl 1 rfl ?_
    refine J_bipush (v := (8 : Int32)) (pc := 17) dX4_nextChange_17 (by decide) ?_
    refine J_irem (pc := 19) dX4_nextChange_19 (by decide) ?_
    refine J_iconst (v := (3 : Int32)) (pc := 20) dX4_nextChange_20 (by decide) ?_
    refine J_isub (pc := 21) dX4_nextChange_21 ?_
    cases h
    exact J_ireturn dX4_nextChange_22 rfl rfl rfl rfl rfl
  · replace h := ifn c5 h
    refine J_iconst (v := (0 : Int32)) (pc := 12) dX4_nextChange_12 (by decide) ?_
    refine J_goto (pc := 13) (tgt := 22) dX4_nextChange_13 (by decide) ?_
    cases h
    exact J_ireturn dX4_nextChange_22 rfl rfl rfl rfl rfl
set_option maxHeartbeats 4000000 in
set_option maxRecDepth 100000 in
theorem kL_X4_reached_L30 {κ : Kx} {E : En} {Q : State → Prop} {ρ : Type} {r : ρ} (a1 : Int32) (M : Wd) (K74 : Int32 → Option ρ) (hK74 : ∀ (x2 : Int32), K74 x2 = some r → J κ E mi_X4_reached Q 0 0 [(0, .ref 53), (1, .int a1), (2, .int x2)] M 74 []) : ∀ (m : Nat) (x2 : Int32) (x3 : Int32), F_X4_reached_L30 a1 M K74 m x2 x3 = some r → J κ E mi_X4_reached Q 0 0 [(0, .ref 53), (1, .int a1), (2, .int x2), (3, .int x3)] M 30 [] := by
  intro m
  induction m with
  | zero => intro x2 x3 h; exact (nomatch (show (none : Option ρ) = some r from h))
  | succ m ih =>
    intro x2 x3 h
    unfold F_X4_reached_L30 at h
    refine J_iload_n (pc := 30) dX4_reached_30 rfl 3 rfl ?_
    refine J_aload_n (pc := 31) dX4_reached_31 rfl 0 rfl ?_
    refine get_53_14 (pc := 32) w_1037 dX4_reached_32 ?_
    refine J_icmp_ge (pc := 35) (tgt := 74) dX4_reached_35 (by decide) (fun c8 => ?_) (fun c8 => ?_)
    · replace h := ifp c8 h
      refine J_sub [0, 1, 2] rfl ?_
      exact hK74 _ h
    · replace h := ifn c8 h
      refine J_iload_n (pc := 38) dX4_reached_38 rfl 2 rfl ?_
      refine J_iload_n (pc := 39) dX4_reached_39 rfl 1 rfl ?_
      obtain ⟨v9, hv17, h⟩ := obind_e h
      refine J_join [(0, .ref 53), (1, .int a1), (3, .int x3)] M 66 [.int v9, .int x2] ?_ (fun hJ => ?_)
      · refine J_iadd (pc := 66) dX4_reached_66 ?_
        obtain ⟨v18, e19, h⟩ := bnd_e h
        refine J_topi e19 ?_
        refine J_istore_n (pc := 67) dX4_reached_67 rfl (Nat.le_of_ble_eq_true rfl) [1, 2, 0, 3] rfl ?_
        obtain ⟨v20, e21, h⟩ := bnd_e h
        refine J_iinc (v := v20) (pc := 68) dX4_reached_68 3 rfl (by rw [e21]; rfl) (Nat.le_of_ble_eq_true rfl) [1, 2, 3, 0] rfl ?_
        refine J_LS [(0, .ref 53), (1, .int a1), (2, .int v18), (3, .int v20)] [] rfl rfl ?_
        refine J_goto (pc := 71) (tgt := 30) dX4_reached_71 (by decide) ?_
        exact ih _ _ h
      · replace h := hv17
        refine J_if_eq (pc := 40) (tgt := 61) dX4_reached_40 (by decide) (fun c10 => ?_) (fun c10 => ?_)
        · replace h := ifp c10 h
          refine J_iconst (v := (1 : Int32)) (pc := 61) dX4_reached_61 (by decide) ?_
          refine J_goto (pc := 62) (tgt := 66) dX4_reached_62 (by decide) ?_
          cases h
          refine J_sub [0, 1, 3] rfl ?_
          exact hJ
        · replace h := ifn c10 h
          refine J_iload_n (pc := 43) dX4_reached_43 rfl 1 rfl ?_
          refine J_iconst (v := (1 : Int32)) (pc := 44) dX4_reached_44 (by decide) ?_
          refine J_icmp_ne (pc := 45) (tgt := 65) dX4_reached_45 (by decide) (fun c11 => ?_) (fun c11 => ?_)
          · replace h := ifn c11 h
            refine J_iconst (v := (0 : Int32)) (pc := 65) dX4_reached_65 (by decide) ?_
            cases h
            refine J_sub [0, 1, 3] rfl ?_
            exact hJ
          · replace h := ifp c11 h
            refine J_aload_n (pc := 48) dX4_reached_48 rfl 0 rfl ?_
            refine J_aload_n (pc := 49) dX4_reached_49 rfl 0 rfl ?_
            refine get_53_12 (pc := 50) w_1035 dX4_reached_50 ?_
            refine J_iload_n (pc := 53) dX4_reached_53 rfl 3 rfl ?_
            obtain ⟨v12, e13, hk14, h⟩ := ldi_e h
            refine J_iald (c := 60) (N := 4096) (pc := 54) ja_60 (Nat.le_of_ble_eq_true rfl) hk14 dX4_reached_54 ?_
            refine J_topi e13 ?_
            refine J_callV (g := mi_X4_isEnd) (ci := 4) (pc := 55) [.int v12] [.int x2] mv_X4_isEnd w_1230 (k_X4_isEnd v12 _) rfl (by decide) rfl rfl rfl ⟨⟨Nat.le_of_ble_eq_true rfl, Nat.le_of_ble_eq_true rfl⟩, Nat.le_of_ble_eq_true rfl, Nat.le_of_ble_eq_true rfl⟩ (Nat.le_of_ble_eq_true rfl) dX4_reached_55 (Jk_v rfl rfl fun hok15 => ?_)
            refine J_if_eq (pc := 58) (tgt := 65) dX4_reached_58 (by decide) (fun c16 => ?_) (fun c16 => ?_)
            · replace h := ifp c16 h
              refine J_iconst (v := (0 : Int32)) (pc := 65) dX4_reached_65 (by decide) ?_
              cases h
              refine J_sub [0, 1, 3] rfl ?_
              exact hJ
            · replace h := ifn c16 h
              refine J_iconst (v := (1 : Int32)) (pc := 61) dX4_reached_61 (by decide) ?_
              refine J_goto (pc := 62) (tgt := 66) dX4_reached_62 (by decide) ?_
              cases h
              refine J_sub [0, 1, 3] rfl ?_
              exact hJ
set_option maxHeartbeats 4000000 in
set_option maxRecDepth 100000 in
theorem k_X4_reached {E : En} (a1 : Int32) (M : Wd) {r : Int32} {M' : Wd} (h : F_X4_reached a1 M = some (r, M')) : Con E mi_X4_reached [.ref 53, .int a1] M (.inl (some (.int r))) M' := by
  unfold F_X4_reached at h
  refine Con.of (by decide) rfl (Nat.le_of_ble_eq_true rfl) (fun κ => ?_)
  show J κ E mi_X4_reached _ 0 0 [(0, .ref 53), (1, .int a1)] M 0 []
  refine J_aload_n (pc := 0) dX4_reached_0 rfl 0 rfl ?_
  refine J_aload_n (pc := 1) dX4_reached_1 rfl 0 rfl ?_
  refine get_53_3 (pc := 2) w_1026 dX4_reached_2 ?_
  refine J_iconst (v := (0 : Int32)) (pc := 5) dX4_reached_5 (by decide) ?_
  refine J_iald (c := 55) (N := 82) (pc := 6) ja_55 (Nat.le_of_ble_eq_true rfl) (vpc rfl) dX4_reached_6 ?_
  refine J_topi (x := M.1 55 (Int32.toNatClampNeg 0)) (y := (M.1 55 0)) (Eq.symm (a := M.1 55 (Int32.toNatClampNeg 0)) (show M.1 55 0 = (M.1 55 0) from rfl)) ?_
  refine J_aload_n (pc := 7) dX4_reached_7 rfl 0 rfl ?_
  refine get_53_3 (pc := 8) w_1026 dX4_reached_8 ?_
  refine J_bipush (v := (19 : Int32)) (pc := 11) dX4_reached_11 (by decide) ?_
  refine J_iald (c := 55) (N := 82) (pc := 13) ja_55 (Nat.le_of_ble_eq_true rfl) (vpc rfl) dX4_reached_13 ?_
  refine J_topi (x := M.1 55 (Int32.toNatClampNeg 19)) (y := (M.1 55 19)) (Eq.symm (a := M.1 55 (Int32.toNatClampNeg 19)) (show M.1 55 19 = (M.1 55 19) from rfl)) ?_
  obtain ⟨M1, hc2, h⟩ := obind_e h
  refine J_callV (g := mi_X4_prepares) (ci := 4) (pc := 14) [.int (M.1 55 0), .int (M.1 55 19)] [] mv_X4_prepares w_1218 (k_X4_prepares (M.1 55 0) (M.1 55 19) _ hc2) rfl (by decide) rfl rfl rfl ⟨⟨Nat.le_of_ble_eq_true rfl, Nat.le_of_ble_eq_true rfl⟩, Nat.le_of_ble_eq_true rfl, Nat.le_of_ble_eq_true rfl⟩ (Nat.le_of_ble_eq_true rfl) dX4_reached_14 (Jk_0 rfl rfl ?_)
  refine J_aload_n (pc := 17) dX4_reached_17 rfl 0 rfl ?_
  refine J_aload_n (pc := 18) dX4_reached_18 rfl 0 rfl ?_
  obtain ⟨v3, hc4, h⟩ := obind_e h
  refine J_callV (g := mi_X4_codeNow) (ci := 4) (pc := 19) [] [.ref 53] mv_X4_codeNow w_1254 (k_X4_codeNow _ hc4) rfl (by decide) rfl rfl rfl ⟨⟨Nat.le_of_ble_eq_true rfl, Nat.le_of_ble_eq_true rfl⟩, Nat.le_of_ble_eq_true rfl, Nat.le_of_ble_eq_true rfl⟩ (Nat.le_of_ble_eq_true rfl) dX4_reached_19 (Jk_v rfl rfl fun hok5 => ?_)
  refine J_iconst (v := (3 : Int32)) (pc := 22) dX4_reached_22 (by decide) ?_
  obtain ⟨M6, hc7, h⟩ := obind_e h
  refine J_callV (g := mi_X4_from) (ci := 4) (pc := 23) [.int v3, .int (3 : Int32)] [] mv_X4_from w_1453 (k_X4_from v3 (3 : Int32) _ hc7) rfl (by decide) rfl rfl rfl ⟨⟨Nat.le_of_ble_eq_true rfl, Nat.le_of_ble_eq_true rfl⟩, Nat.le_of_ble_eq_true rfl, Nat.le_of_ble_eq_true rfl⟩ (Nat.le_of_ble_eq_true rfl) dX4_reached_23 (Jk_0 rfl rfl ?_)
  refine J_iconst (v := (0 : Int32)) (pc := 26) dX4_reached_26 (by decide) ?_
  refine J_istore_n (pc := 27) dX4_reached_27 rfl (Nat.le_of_ble_eq_true rfl) [1, 2, 0] rfl ?_
  refine J_iconst (v := (0 : Int32)) (pc := 28) dX4_reached_28 (by decide) ?_
  refine J_istore_n (pc := 29) dX4_reached_29 rfl (Nat.le_of_ble_eq_true rfl) [1, 2, 3, 0] rfl ?_
  refine J_LS [(0, .ref 53), (1, .int a1), (2, .int (0 : Int32)), (3, .int (0 : Int32))] [] rfl rfl ?_
  refine kL_X4_reached_L30 _ _ _ (fun v22 h => ?_) fuelN _ _ h
  refine J_iload_n (pc := 74) dX4_reached_74 rfl 1 rfl ?_
  refine J_iconst (v := (2 : Int32)) (pc := 75) dX4_reached_75 (by decide) ?_
  refine J_icmp_ne (pc := 76) (tgt := 98) dX4_reached_76 (by decide) (fun c23 => ?_) (fun c23 => ?_)
  · replace h := ifn c23 h
    refine J_iload_n (pc := 98) dX4_reached_98 rfl 2 rfl ?_
    cases h
    exact J_ireturn dX4_reached_99 rfl rfl rfl rfl rfl
  · replace h := ifp c23 h
    refine J_aload_n (pc := 79) dX4_reached_79 rfl 0 rfl ?_
    refine get_53_11 (pc := 80) w_1034 dX4_reached_80 ?_
    refine J_aload_n (pc := 83) dX4_reached_83 rfl 0 rfl ?_
    refine get_53_12 (pc := 84) w_1035 dX4_reached_84 ?_
    refine J_aload_n (pc := 87) dX4_reached_87 rfl 0 rfl ?_
    refine get_53_14 (pc := 88) w_1037 dX4_reached_88 ?_
    refine J_iconst (v := (1 : Int32)) (pc := 91) dX4_reached_91 (by decide) ?_
    refine J_isub (pc := 92) dX4_reached_92 ?_
    obtain ⟨v24, e25, hk26, h⟩ := ldi_e h
    refine J_iald (c := 60) (N := 4096) (pc := 93) ja_60 (Nat.le_of_ble_eq_true rfl) hk26 dX4_reached_93 ?_
    refine J_topi e25 ?_
    obtain ⟨v27, e28, hk29, h⟩ := ldi_e h
    refine J_iald (c := 59) (N := 4096) (pc := 94) ja_59 (Nat.le_of_ble_eq_true rfl) hk29 dX4_reached_94 ?_
    refine J_topi e28 ?_
    refine J_goto (pc := 95) (tgt := 99) dX4_reached_95 (by decide) ?_
    cases h
    exact J_ireturn dX4_reached_99 rfl rfl rfl rfl rfl
set_option maxHeartbeats 4000000 in
set_option maxRecDepth 100000 in
theorem k_X4_reachable {E : En} (M : Wd) {r : Int32} {M' : Wd} (h : F_X4_reachable M = some (r, M')) : Con E mi_X4_reachable [.ref 53] M (.inl (some (.int r))) M' := by
  unfold F_X4_reachable at h
  refine Con.of (by decide) rfl (Nat.le_of_ble_eq_true rfl) (fun κ => ?_)
  show J κ E mi_X4_reachable _ 0 0 [(0, .ref 53)] M 0 []
  refine J_aload_n (pc := 0) dX4_reachable_0 rfl 0 rfl ?_
  refine J_aload_n (pc := 1) dX4_reachable_1 rfl 0 rfl ?_
  refine J_iconst (v := (0 : Int32)) (pc := 2) dX4_reachable_2 (by decide) ?_
  obtain ⟨v1, M2, hc3, h⟩ := obind2_e h
  refine J_callV (g := mi_X4_reached) (ci := 4) (pc := 3) [.int (0 : Int32)] [.ref 53] mv_X4_reached w_1509 (k_X4_reached (0 : Int32) _ hc3) rfl (by decide) rfl rfl rfl ⟨⟨Nat.le_of_ble_eq_true rfl, Nat.le_of_ble_eq_true rfl⟩, Nat.le_of_ble_eq_true rfl, Nat.le_of_ble_eq_true rfl⟩ (Nat.le_of_ble_eq_true rfl) dX4_reachable_3 (Jk_v rfl rfl fun hok4 => ?_)
  obtain ⟨v5, M6, hc7, h⟩ := obind2_e h
  refine J_callV (g := mi_X4_told) (ci := 4) (pc := 6) [.int v1] [] mv_X4_told w_1349 (k_X4_told v1 _ hc7) rfl (by decide) rfl rfl rfl ⟨⟨Nat.le_of_ble_eq_true rfl, Nat.le_of_ble_eq_true rfl⟩, Nat.le_of_ble_eq_true rfl, Nat.le_of_ble_eq_true rfl⟩ (Nat.le_of_ble_eq_true rfl) dX4_reachable_6 (Jk_v rfl rfl fun hok8 => ?_)
  cases h
  exact J_ireturn dX4_reachable_9 rfl rfl rfl rfl rfl
set_option maxHeartbeats 4000000 in
set_option maxRecDepth 100000 in
theorem k_X4_reachableOut {E : En} (M : Wd) {r : Int32} {M' : Wd} (h : F_X4_reachableOut M = some (r, M')) : Con E mi_X4_reachableOut [.ref 53] M (.inl (some (.int r))) M' := by
  unfold F_X4_reachableOut at h
  refine Con.of (by decide) rfl (Nat.le_of_ble_eq_true rfl) (fun κ => ?_)
  show J κ E mi_X4_reachableOut _ 0 0 [(0, .ref 53)] M 0 []
  refine J_aload_n (pc := 0) dX4_reachableOut_0 rfl 0 rfl ?_
  refine J_aload_n (pc := 1) dX4_reachableOut_1 rfl 0 rfl ?_
  refine J_iconst (v := (1 : Int32)) (pc := 2) dX4_reachableOut_2 (by decide) ?_
  obtain ⟨v1, M2, hc3, h⟩ := obind2_e h
  refine J_callV (g := mi_X4_reached) (ci := 4) (pc := 3) [.int (1 : Int32)] [.ref 53] mv_X4_reached w_1509 (k_X4_reached (1 : Int32) _ hc3) rfl (by decide) rfl rfl rfl ⟨⟨Nat.le_of_ble_eq_true rfl, Nat.le_of_ble_eq_true rfl⟩, Nat.le_of_ble_eq_true rfl, Nat.le_of_ble_eq_true rfl⟩ (Nat.le_of_ble_eq_true rfl) dX4_reachableOut_3 (Jk_v rfl rfl fun hok4 => ?_)
  obtain ⟨v5, M6, hc7, h⟩ := obind2_e h
  refine J_callV (g := mi_X4_told) (ci := 4) (pc := 6) [.int v1] [] mv_X4_told w_1349 (k_X4_told v1 _ hc7) rfl (by decide) rfl rfl rfl ⟨⟨Nat.le_of_ble_eq_true rfl, Nat.le_of_ble_eq_true rfl⟩, Nat.le_of_ble_eq_true rfl, Nat.le_of_ble_eq_true rfl⟩ (Nat.le_of_ble_eq_true rfl) dX4_reachableOut_6 (Jk_v rfl rfl fun hok8 => ?_)
  cases h
  exact J_ireturn dX4_reachableOut_9 rfl rfl rfl rfl rfl
set_option maxHeartbeats 4000000 in
set_option maxRecDepth 100000 in
theorem k_X4_farthest {E : En} (M : Wd) {r : Int32} {M' : Wd} (h : F_X4_farthest M = some (r, M')) : Con E mi_X4_farthest [.ref 53] M (.inl (some (.int r))) M' := by
  unfold F_X4_farthest at h
  refine Con.of (by decide) rfl (Nat.le_of_ble_eq_true rfl) (fun κ => ?_)
  show J κ E mi_X4_farthest _ 0 0 [(0, .ref 53)] M 0 []
  refine J_aload_n (pc := 0) dX4_farthest_0 rfl 0 rfl ?_
  refine J_aload_n (pc := 1) dX4_farthest_1 rfl 0 rfl ?_
  refine J_iconst (v := (2 : Int32)) (pc := 2) dX4_farthest_2 (by decide) ?_
  obtain ⟨v1, M2, hc3, h⟩ := obind2_e h
  refine J_callV (g := mi_X4_reached) (ci := 4) (pc := 3) [.int (2 : Int32)] [.ref 53] mv_X4_reached w_1509 (k_X4_reached (2 : Int32) _ hc3) rfl (by decide) rfl rfl rfl ⟨⟨Nat.le_of_ble_eq_true rfl, Nat.le_of_ble_eq_true rfl⟩, Nat.le_of_ble_eq_true rfl, Nat.le_of_ble_eq_true rfl⟩ (Nat.le_of_ble_eq_true rfl) dX4_farthest_3 (Jk_v rfl rfl fun hok4 => ?_)
  obtain ⟨v5, M6, hc7, h⟩ := obind2_e h
  refine J_callV (g := mi_X4_told) (ci := 4) (pc := 6) [.int v1] [] mv_X4_told w_1349 (k_X4_told v1 _ hc7) rfl (by decide) rfl rfl rfl ⟨⟨Nat.le_of_ble_eq_true rfl, Nat.le_of_ble_eq_true rfl⟩, Nat.le_of_ble_eq_true rfl, Nat.le_of_ble_eq_true rfl⟩ (Nat.le_of_ble_eq_true rfl) dX4_farthest_6 (Jk_v rfl rfl fun hok8 => ?_)
  cases h
  exact J_ireturn dX4_farthest_9 rfl rfl rfl rfl rfl
set_option maxHeartbeats 4000000 in
set_option maxRecDepth 100000 in
theorem kL_X4_all_L21 {κ : Kx} {E : En} {Q : State → Prop} {ρ : Type} {r : ρ} (M : Wd) (K55 : Int32 → Option ρ) (hK55 : ∀ (x1 : Int32), K55 x1 = some r → J κ E mi_X4_all Q 0 0 [(1, .int x1)] M 55 []) : ∀ (m : Nat) (x1 : Int32) (x2 : Int32), F_X4_all_L21 M K55 m x1 x2 = some r → J κ E mi_X4_all Q 0 0 [(0, .ref 53), (1, .int x1), (2, .int x2)] M 21 [] := by
  intro m
  induction m with
  | zero => intro x1 x2 h; exact (nomatch (show (none : Option ρ) = some r from h))
  | succ m ih =>
    intro x1 x2 h
    unfold F_X4_all_L21 at h
    refine J_iload_n (pc := 21) dX4_all_21 rfl 2 rfl ?_
    refine J_iconst (v := (1 : Int32)) (pc := 22) dX4_all_22 (by decide) ?_
    refine J_iconst (v := (2 : Int32)) (pc := 23) dX4_all_23 (by decide) ?_
    refine J_aload_n (pc := 24) dX4_all_24 rfl 0 rfl ?_
    refine get_53_9 (pc := 25) w_1032 dX4_all_25 ?_
    refine J_imul (pc := 28) dX4_all_28 ?_
    refine J_ishl (pc := 29) dX4_all_29 ?_
    refine J_icmp_ge (pc := 30) (tgt := 55) dX4_all_30 (by decide) (fun c3 => ?_) (fun c3 => ?_)
    · replace h := ifp c3 h
      refine J_sub [1] rfl ?_
      exact hK55 _ h
    · replace h := ifn c3 h
      refine J_iload_n (pc := 33) dX4_all_33 rfl 1 rfl ?_
      refine J_aload_n (pc := 34) dX4_all_34 rfl 0 rfl ?_
      refine J_iload_n (pc := 35) dX4_all_35 rfl 2 rfl ?_
      obtain ⟨v4, hc5, h⟩ := obind_e h
      refine J_callV (g := mi_X4_isWhole) (ci := 4) (pc := 36) [.int x2] [.int x1] mv_X4_isWhole w_1234 (k_X4_isWhole x2 _ hc5) rfl (by decide) rfl rfl rfl ⟨⟨Nat.le_of_ble_eq_true rfl, Nat.le_of_ble_eq_true rfl⟩, Nat.le_of_ble_eq_true rfl, Nat.le_of_ble_eq_true rfl⟩ (Nat.le_of_ble_eq_true rfl) dX4_all_36 (Jk_v rfl rfl fun hok6 => ?_)
      obtain ⟨v7, e8, h⟩ := bnd_e h
      have hb10 : isB v7 := by rw [e8]; repeat (first | exact Or.inl rfl | exact Or.inr rfl | assumption | exact okB_b (by assumption) | apply isB_ite)
      refine J_join [(0, .ref 53), (2, .int x2)] M 47 [.int v7, .int x1] ?_ (fun hJ => ?_)
      · refine J_iadd (pc := 47) dX4_all_47 ?_
        obtain ⟨v11, e12, h⟩ := bnd_e h
        refine J_topi e12 ?_
        refine J_istore_n (pc := 48) dX4_all_48 rfl (Nat.le_of_ble_eq_true rfl) [1, 0, 2] rfl ?_
        obtain ⟨v13, e14, h⟩ := bnd_e h
        refine J_iinc (v := v13) (pc := 49) dX4_all_49 2 rfl (by rw [e14]; rfl) (Nat.le_of_ble_eq_true rfl) [1, 2, 0] rfl ?_
        refine J_LS [(0, .ref 53), (1, .int v11), (2, .int v13)] [] rfl rfl ?_
        refine J_goto (pc := 52) (tgt := 21) dX4_all_52 (by decide) ?_
        exact ih _ _ h
      · refine J_if_eq (pc := 39) (tgt := 46) dX4_all_39 (by decide) (fun c9 => ?_) (fun c9 => ?_)
        · refine J_iconst (v := (0 : Int32)) (pc := 46) dX4_all_46 (by decide) ?_
          refine J_sub [0, 2] rfl ?_
          refine J_topi (y := v7) (by rw [e8, if_pos c9]) ?_
          exact hJ
        · refine J_iconst (v := (1 : Int32)) (pc := 42) dX4_all_42 (by decide) ?_
          refine J_goto (pc := 43) (tgt := 47) dX4_all_43 (by decide) ?_
          refine J_sub [0, 2] rfl ?_
          refine J_topi (y := v7) (by rw [e8, if_neg c9]) ?_
          exact hJ
set_option maxHeartbeats 4000000 in
set_option maxRecDepth 100000 in
theorem k_X4_all {E : En} (M : Wd) {r : Int32} {M' : Wd} (h : F_X4_all M = some (r, M')) : Con E mi_X4_all [.ref 53] M (.inl (some (.int r))) M' := by
  unfold F_X4_all at h
  refine Con.of (by decide) rfl (Nat.le_of_ble_eq_true rfl) (fun κ => ?_)
  show J κ E mi_X4_all _ 0 0 [(0, .ref 53)] M 0 []
  refine J_aload_n (pc := 0) dX4_all_0 rfl 0 rfl ?_
  refine J_aload_n (pc := 1) dX4_all_1 rfl 0 rfl ?_
  refine get_53_3 (pc := 2) w_1026 dX4_all_2 ?_
  refine J_iconst (v := (0 : Int32)) (pc := 5) dX4_all_5 (by decide) ?_
  refine J_iald (c := 55) (N := 82) (pc := 6) ja_55 (Nat.le_of_ble_eq_true rfl) (vpc rfl) dX4_all_6 ?_
  refine J_topi (x := M.1 55 (Int32.toNatClampNeg 0)) (y := (M.1 55 0)) (Eq.symm (a := M.1 55 (Int32.toNatClampNeg 0)) (show M.1 55 0 = (M.1 55 0) from rfl)) ?_
  refine J_aload_n (pc := 7) dX4_all_7 rfl 0 rfl ?_
  refine get_53_3 (pc := 8) w_1026 dX4_all_8 ?_
  refine J_bipush (v := (19 : Int32)) (pc := 11) dX4_all_11 (by decide) ?_
  refine J_iald (c := 55) (N := 82) (pc := 13) ja_55 (Nat.le_of_ble_eq_true rfl) (vpc rfl) dX4_all_13 ?_
  refine J_topi (x := M.1 55 (Int32.toNatClampNeg 19)) (y := (M.1 55 19)) (Eq.symm (a := M.1 55 (Int32.toNatClampNeg 19)) (show M.1 55 19 = (M.1 55 19) from rfl)) ?_
  obtain ⟨M1, hc2, h⟩ := obind_e h
  refine J_callV (g := mi_X4_prepares) (ci := 4) (pc := 14) [.int (M.1 55 0), .int (M.1 55 19)] [] mv_X4_prepares w_1218 (k_X4_prepares (M.1 55 0) (M.1 55 19) _ hc2) rfl (by decide) rfl rfl rfl ⟨⟨Nat.le_of_ble_eq_true rfl, Nat.le_of_ble_eq_true rfl⟩, Nat.le_of_ble_eq_true rfl, Nat.le_of_ble_eq_true rfl⟩ (Nat.le_of_ble_eq_true rfl) dX4_all_14 (Jk_0 rfl rfl ?_)
  refine J_iconst (v := (0 : Int32)) (pc := 17) dX4_all_17 (by decide) ?_
  refine J_istore_n (pc := 18) dX4_all_18 rfl (Nat.le_of_ble_eq_true rfl) [1, 0] rfl ?_
  refine J_iconst (v := (0 : Int32)) (pc := 19) dX4_all_19 (by decide) ?_
  refine J_istore_n (pc := 20) dX4_all_20 rfl (Nat.le_of_ble_eq_true rfl) [1, 2, 0] rfl ?_
  refine J_LS [(0, .ref 53), (1, .int (0 : Int32)), (2, .int (0 : Int32))] [] rfl rfl ?_
  refine kL_X4_all_L21 _ _ (fun v15 h => ?_) fuelN _ _ h
  refine J_iload_n (pc := 55) dX4_all_55 rfl 0 rfl ?_
  cases h
  exact J_ireturn dX4_all_56 rfl rfl rfl rfl rfl
set_option maxHeartbeats 4000000 in
set_option maxRecDepth 100000 in
theorem k_X4_arrangements {E : En} (M : Wd) {r : Int32} {M' : Wd} (h : F_X4_arrangements M = some (r, M')) : Con E mi_X4_arrangements [.ref 53] M (.inl (some (.int r))) M' := by
  unfold F_X4_arrangements at h
  refine Con.of (by decide) rfl (Nat.le_of_ble_eq_true rfl) (fun κ => ?_)
  show J κ E mi_X4_arrangements _ 0 0 [(0, .ref 53)] M 0 []
  refine J_aload_n (pc := 0) dX4_arrangements_0 rfl 0 rfl ?_
  refine J_aload_n (pc := 1) dX4_arrangements_1 rfl 0 rfl ?_
  obtain ⟨v1, M2, hc3, h⟩ := obind2_e h
  refine J_callV (g := mi_X4_all) (ci := 4) (pc := 2) [] [.ref 53] mv_X4_all w_1525 (k_X4_all _ hc3) rfl (by decide) rfl rfl rfl ⟨⟨Nat.le_of_ble_eq_true rfl, Nat.le_of_ble_eq_true rfl⟩, Nat.le_of_ble_eq_true rfl, Nat.le_of_ble_eq_true rfl⟩ (Nat.le_of_ble_eq_true rfl) dX4_arrangements_2 (Jk_v rfl rfl fun hok4 => ?_)
  obtain ⟨v5, M6, hc7, h⟩ := obind2_e h
  refine J_callV (g := mi_X4_told) (ci := 4) (pc := 5) [.int v1] [] mv_X4_told w_1349 (k_X4_told v1 _ hc7) rfl (by decide) rfl rfl rfl ⟨⟨Nat.le_of_ble_eq_true rfl, Nat.le_of_ble_eq_true rfl⟩, Nat.le_of_ble_eq_true rfl, Nat.le_of_ble_eq_true rfl⟩ (Nat.le_of_ble_eq_true rfl) dX4_arrangements_5 (Jk_v rfl rfl fun hok8 => ?_)
  cases h
  exact J_ireturn dX4_arrangements_8 rfl rfl rfl rfl rfl
set_option maxHeartbeats 4000000 in
set_option maxRecDepth 100000 in
theorem k_X4_fewestBehind {E : En} (a1 : Int32) (a2 : Int32) (M : Wd) {r : Int32} {M' : Wd} (h : F_X4_fewestBehind a1 a2 M = some (r, M')) : Con E mi_X4_fewestBehind [.ref 53, .int a1, .int a2] M (.inl (some (.int r))) M' := by
  unfold F_X4_fewestBehind at h
  refine Con.of (by decide) rfl (Nat.le_of_ble_eq_true rfl) (fun κ => ?_)
  show J κ E mi_X4_fewestBehind _ 0 0 [(0, .ref 53), (1, .int a1), (2, .int a2)] M 0 []
  refine J_aload_n (pc := 0) dX4_fewestBehind_0 rfl 0 rfl ?_
  refine J_aload_n (pc := 1) dX4_fewestBehind_1 rfl 0 rfl ?_
  refine J_iload_n (pc := 2) dX4_fewestBehind_2 rfl 1 rfl ?_
  refine J_callV (g := mi_X4_isCar) (ci := 4) (pc := 3) [.int a1] [.ref 53] mv_X4_isCar w_1166 (k_X4_isCar a1 _) rfl (by decide) rfl rfl rfl ⟨⟨Nat.le_of_ble_eq_true rfl, Nat.le_of_ble_eq_true rfl⟩, Nat.le_of_ble_eq_true rfl, Nat.le_of_ble_eq_true rfl⟩ (Nat.le_of_ble_eq_true rfl) dX4_fewestBehind_3 (Jk_v rfl rfl fun hok1 => ?_)
  obtain ⟨v2, hv10, h⟩ := obind_e h
  refine J_join [(0, .ref 53), (1, .int a1), (2, .int a2)] M 38 [.int v2, .ref 53] ?_ (fun hJ => ?_)
  · obtain ⟨v11, M12, hc13, h⟩ := obind2_e h
    refine J_callV (g := mi_X4_refused) (ci := 4) (pc := 38) [.int v2] [] mv_X4_refused w_1120 (k_X4_refused v2 _ hc13) rfl (by decide) rfl rfl rfl ⟨⟨Nat.le_of_ble_eq_true rfl, Nat.le_of_ble_eq_true rfl⟩, Nat.le_of_ble_eq_true rfl, Nat.le_of_ble_eq_true rfl⟩ (Nat.le_of_ble_eq_true rfl) dX4_fewestBehind_38 (Jk_v rfl rfl fun hok14 => ?_)
    refine J_if_eq (pc := 41) (tgt := 46) dX4_fewestBehind_41 (by decide) (fun c15 => ?_) (fun c15 => ?_)
    · replace h := ifp c15 h
      refine J_aload_n (pc := 46) dX4_fewestBehind_46 rfl 0 rfl ?_
      refine J_aload_n (pc := 47) dX4_fewestBehind_47 rfl 0 rfl ?_
      refine get_53_3 (pc := 48) w_1026 dX4_fewestBehind_48 ?_
      refine J_iconst (v := (0 : Int32)) (pc := 51) dX4_fewestBehind_51 (by decide) ?_
      refine J_iald (c := 55) (N := 82) (pc := 52) ja_55 (Nat.le_of_ble_eq_true rfl) (vpc rfl) dX4_fewestBehind_52 ?_
      refine J_topi (x := M12.1 55 (Int32.toNatClampNeg 0)) (y := (M12.1 55 0)) (Eq.symm (a := M12.1 55 (Int32.toNatClampNeg 0)) (show M12.1 55 0 = (M12.1 55 0) from rfl)) ?_
      refine J_aload_n (pc := 53) dX4_fewestBehind_53 rfl 0 rfl ?_
      refine get_53_3 (pc := 54) w_1026 dX4_fewestBehind_54 ?_
      refine J_bipush (v := (19 : Int32)) (pc := 57) dX4_fewestBehind_57 (by decide) ?_
      refine J_iald (c := 55) (N := 82) (pc := 59) ja_55 (Nat.le_of_ble_eq_true rfl) (vpc rfl) dX4_fewestBehind_59 ?_
      refine J_topi (x := M12.1 55 (Int32.toNatClampNeg 19)) (y := (M12.1 55 19)) (Eq.symm (a := M12.1 55 (Int32.toNatClampNeg 19)) (show M12.1 55 19 = (M12.1 55 19) from rfl)) ?_
      obtain ⟨M16, hc17, h⟩ := obind_e h
      refine J_callV (g := mi_X4_prepares) (ci := 4) (pc := 60) [.int (M12.1 55 0), .int (M12.1 55 19)] [] mv_X4_prepares w_1218 (k_X4_prepares (M12.1 55 0) (M12.1 55 19) _ hc17) rfl (by decide) rfl rfl rfl ⟨⟨Nat.le_of_ble_eq_true rfl, Nat.le_of_ble_eq_true rfl⟩, Nat.le_of_ble_eq_true rfl, Nat.le_of_ble_eq_true rfl⟩ (Nat.le_of_ble_eq_true rfl) dX4_fewestBehind_60 (Jk_0 rfl rfl ?_)
      refine J_aload_n (pc := 63) dX4_fewestBehind_63 rfl 0 rfl ?_
      refine J_aload_n (pc := 64) dX4_fewestBehind_64 rfl 0 rfl ?_
      obtain ⟨v18, hc19, h⟩ := obind_e h
      refine J_callV (g := mi_X4_codeNow) (ci := 4) (pc := 65) [] [.ref 53] mv_X4_codeNow w_1254 (k_X4_codeNow _ hc19) rfl (by decide) rfl rfl rfl ⟨⟨Nat.le_of_ble_eq_true rfl, Nat.le_of_ble_eq_true rfl⟩, Nat.le_of_ble_eq_true rfl, Nat.le_of_ble_eq_true rfl⟩ (Nat.le_of_ble_eq_true rfl) dX4_fewestBehind_65 (Jk_v rfl rfl fun hok20 => ?_)
      refine J_iload_n (pc := 68) dX4_fewestBehind_68 rfl 2 rfl ?_
      refine J_iconst (v := (2 : Int32)) (pc := 69) dX4_fewestBehind_69 (by decide) ?_
      refine J_iload_n (pc := 70) dX4_fewestBehind_70 rfl 1 rfl ?_
      refine J_imul (pc := 71) dX4_fewestBehind_71 ?_
      refine J_ishl (pc := 72) dX4_fewestBehind_72 ?_
      refine J_iadd (pc := 73) dX4_fewestBehind_73 ?_
      refine J_iconst (v := (3 : Int32)) (pc := 74) dX4_fewestBehind_74 (by decide) ?_
      obtain ⟨M21, hc22, h⟩ := obind_e h
      refine J_callV (g := mi_X4_from) (ci := 4) (pc := 75) [.int (v18 + (a2 <<< (((2 : Int32) * a1) &&& 31))), .int (3 : Int32)] [] mv_X4_from w_1453 (k_X4_from (v18 + (a2 <<< (((2 : Int32) * a1) &&& 31))) (3 : Int32) _ hc22) rfl (by decide) rfl rfl rfl ⟨⟨Nat.le_of_ble_eq_true rfl, Nat.le_of_ble_eq_true rfl⟩, Nat.le_of_ble_eq_true rfl, Nat.le_of_ble_eq_true rfl⟩ (Nat.le_of_ble_eq_true rfl) dX4_fewestBehind_75 (Jk_0 rfl rfl ?_)
      refine J_aload_n (pc := 78) dX4_fewestBehind_78 rfl 0 rfl ?_
      obtain ⟨v23, hc24, h⟩ := obind_e h
      refine J_callV (g := mi_X4_leastEnd) (ci := 4) (pc := 79) [] [] mv_X4_leastEnd w_1457 (k_X4_leastEnd _ hc24) rfl (by decide) rfl rfl rfl ⟨⟨Nat.le_of_ble_eq_true rfl, Nat.le_of_ble_eq_true rfl⟩, Nat.le_of_ble_eq_true rfl, Nat.le_of_ble_eq_true rfl⟩ (Nat.le_of_ble_eq_true rfl) dX4_fewestBehind_79 (Jk_v rfl rfl fun hok25 => ?_)
      cases h
      exact J_ireturn dX4_fewestBehind_82 rfl rfl rfl rfl rfl
    · replace h := ifn c15 h
      refine J_iconst (v := (0 : Int32)) (pc := 44) dX4_fewestBehind_44 (by decide) ?_
      cases h
      exact J_ireturn dX4_fewestBehind_45 rfl rfl rfl rfl rfl
  · replace h := hv10
    refine J_if_ne (pc := 6) (tgt := 13) dX4_fewestBehind_6 (by decide) (fun c3 => ?_) (fun c3 => ?_)
    · replace h := ifn c3 h
      refine J_iload_n (pc := 13) dX4_fewestBehind_13 rfl 2 rfl ?_
      refine J_callS (g := mi_X4_isChange) (pc := 14) [.int a2] [.ref 53] ms_X4_isChange w_1170 (k_X4_isChange a2 _) rfl rfl ⟨⟨Nat.le_of_ble_eq_true rfl, Nat.le_of_ble_eq_true rfl⟩, Nat.le_of_ble_eq_true rfl, Nat.le_of_ble_eq_true rfl⟩ (Nat.le_of_ble_eq_true rfl) dX4_fewestBehind_14 (Jk_v rfl rfl fun hok4 => ?_)
      refine J_if_ne (pc := 17) (tgt := 24) dX4_fewestBehind_17 (by decide) (fun c5 => ?_) (fun c5 => ?_)
      · replace h := ifn c5 h
        refine J_aload_n (pc := 24) dX4_fewestBehind_24 rfl 0 rfl ?_
        refine J_iload_n (pc := 25) dX4_fewestBehind_25 rfl 1 rfl ?_
        refine J_iload_n (pc := 26) dX4_fewestBehind_26 rfl 2 rfl ?_
        obtain ⟨v6, hc7, h⟩ := obind_e h
        refine J_callV (g := mi_X4_canSlide) (ci := 4) (pc := 27) [.int a1, .int a2] [.ref 53] mv_X4_canSlide w_1174 (k_X4_canSlide a1 a2 _ hc7) rfl (by decide) rfl rfl rfl ⟨⟨Nat.le_of_ble_eq_true rfl, Nat.le_of_ble_eq_true rfl⟩, Nat.le_of_ble_eq_true rfl, Nat.le_of_ble_eq_true rfl⟩ (Nat.le_of_ble_eq_true rfl) dX4_fewestBehind_27 (Jk_v rfl rfl fun hok8 => ?_)
        refine J_if_eq (pc := 30) (tgt := 37) dX4_fewestBehind_30 (by decide) (fun c9 => ?_) (fun c9 => ?_)
        · replace h := ifp c9 h
          refine J_iconst (v := (3 : Int32)) (pc := 37) dX4_fewestBehind_37 (by decide) ?_
          cases h
          exact hJ
        · replace h := ifn c9 h
          refine J_iconst (v := (0 : Int32)) (pc := 33) dX4_fewestBehind_33 (by decide) ?_
          refine J_goto (pc := 34) (tgt := 38) dX4_fewestBehind_34 (by decide) ?_
          cases h
          exact hJ
      · replace h := ifp c5 h
        refine J_iconst (v := (2 : Int32)) (pc := 20) dX4_fewestBehind_20 (by decide) ?_
        refine J_goto (pc := 21) (tgt := 38) dX4_fewestBehind_21 (by decide) ?_
        cases h
        exact hJ
    · replace h := ifp c3 h
      refine J_iconst (v := (1 : Int32)) (pc := 9) dX4_fewestBehind_9 (by decide) ?_
      refine J_goto (pc := 10) (tgt := 38) dX4_fewestBehind_10 (by decide) ?_
      cases h
      exact hJ
set_option maxHeartbeats 4000000 in
set_option maxRecDepth 100000 in
theorem k_X4_fewestWithoutLast {E : En} (M : Wd) {r : Int32} {M' : Wd} (h : F_X4_fewestWithoutLast M = some (r, M')) : Con E mi_X4_fewestWithoutLast [.ref 53] M (.inl (some (.int r))) M' := by
  unfold F_X4_fewestWithoutLast at h
  refine Con.of (by decide) rfl (Nat.le_of_ble_eq_true rfl) (fun κ => ?_)
  show J κ E mi_X4_fewestWithoutLast _ 0 0 [(0, .ref 53)] M 0 []
  refine J_aload_n (pc := 0) dX4_fewestWithoutLast_0 rfl 0 rfl ?_
  refine J_aload_n (pc := 1) dX4_fewestWithoutLast_1 rfl 0 rfl ?_
  refine get_53_3 (pc := 2) w_1026 dX4_fewestWithoutLast_2 ?_
  refine J_iconst (v := (0 : Int32)) (pc := 5) dX4_fewestWithoutLast_5 (by decide) ?_
  refine J_iald (c := 55) (N := 82) (pc := 6) ja_55 (Nat.le_of_ble_eq_true rfl) (vpc rfl) dX4_fewestWithoutLast_6 ?_
  refine J_topi (x := M.1 55 (Int32.toNatClampNeg 0)) (y := (M.1 55 0)) (Eq.symm (a := M.1 55 (Int32.toNatClampNeg 0)) (show M.1 55 0 = (M.1 55 0) from rfl)) ?_
  refine J_iconst (v := (1 : Int32)) (pc := 7) dX4_fewestWithoutLast_7 (by decide) ?_
  obtain ⟨v1, e2, h⟩ := bnd_e h
  have hb4 : isB v1 := by rw [e2]; repeat (first | exact Or.inl rfl | exact Or.inr rfl | assumption | exact okB_b (by assumption) | apply isB_ite)
  refine J_join [(0, .ref 53)] M 16 [.int v1, .ref 53] ?_ (fun hJ => ?_)
  · obtain ⟨v5, M6, hc7, h⟩ := obind2_e h
    refine J_callV (g := mi_X4_refused) (ci := 4) (pc := 16) [.int v1] [] mv_X4_refused w_1120 (k_X4_refused v1 _ hc7) rfl (by decide) rfl rfl rfl ⟨⟨Nat.le_of_ble_eq_true rfl, Nat.le_of_ble_eq_true rfl⟩, Nat.le_of_ble_eq_true rfl, Nat.le_of_ble_eq_true rfl⟩ (Nat.le_of_ble_eq_true rfl) dX4_fewestWithoutLast_16 (Jk_v rfl rfl fun hok8 => ?_)
    refine J_if_eq (pc := 19) (tgt := 24) dX4_fewestWithoutLast_19 (by decide) (fun c9 => ?_) (fun c9 => ?_)
    · replace h := ifp c9 h
      refine J_aload_n (pc := 24) dX4_fewestWithoutLast_24 rfl 0 rfl ?_
      refine J_aload_n (pc := 25) dX4_fewestWithoutLast_25 rfl 0 rfl ?_
      refine get_53_3 (pc := 26) w_1026 dX4_fewestWithoutLast_26 ?_
      refine J_iconst (v := (0 : Int32)) (pc := 29) dX4_fewestWithoutLast_29 (by decide) ?_
      refine J_iald (c := 55) (N := 82) (pc := 30) ja_55 (Nat.le_of_ble_eq_true rfl) (vpc rfl) dX4_fewestWithoutLast_30 ?_
      refine J_topi (x := M6.1 55 (Int32.toNatClampNeg 0)) (y := (M6.1 55 0)) (Eq.symm (a := M6.1 55 (Int32.toNatClampNeg 0)) (show M6.1 55 0 = (M6.1 55 0) from rfl)) ?_
      refine J_iconst (v := (1 : Int32)) (pc := 31) dX4_fewestWithoutLast_31 (by decide) ?_
      refine J_isub (pc := 32) dX4_fewestWithoutLast_32 ?_
      refine J_aload_n (pc := 33) dX4_fewestWithoutLast_33 rfl 0 rfl ?_
      refine get_53_3 (pc := 34) w_1026 dX4_fewestWithoutLast_34 ?_
      refine J_bipush (v := (19 : Int32)) (pc := 37) dX4_fewestWithoutLast_37 (by decide) ?_
      refine J_iald (c := 55) (N := 82) (pc := 39) ja_55 (Nat.le_of_ble_eq_true rfl) (vpc rfl) dX4_fewestWithoutLast_39 ?_
      refine J_topi (x := M6.1 55 (Int32.toNatClampNeg 19)) (y := (M6.1 55 19)) (Eq.symm (a := M6.1 55 (Int32.toNatClampNeg 19)) (show M6.1 55 19 = (M6.1 55 19) from rfl)) ?_
      obtain ⟨M10, hc11, h⟩ := obind_e h
      refine J_callV (g := mi_X4_prepares) (ci := 4) (pc := 40) [.int ((M6.1 55 0) - (1 : Int32)), .int (M6.1 55 19)] [] mv_X4_prepares w_1218 (k_X4_prepares ((M6.1 55 0) - (1 : Int32)) (M6.1 55 19) _ hc11) rfl (by decide) rfl rfl rfl ⟨⟨Nat.le_of_ble_eq_true rfl, Nat.le_of_ble_eq_true rfl⟩, Nat.le_of_ble_eq_true rfl, Nat.le_of_ble_eq_true rfl⟩ (Nat.le_of_ble_eq_true rfl) dX4_fewestWithoutLast_40 (Jk_0 rfl rfl ?_)
      refine J_aload_n (pc := 43) dX4_fewestWithoutLast_43 rfl 0 rfl ?_
      refine J_aload_n (pc := 44) dX4_fewestWithoutLast_44 rfl 0 rfl ?_
      obtain ⟨v12, hc13, h⟩ := obind_e h
      refine J_callV (g := mi_X4_codeNow) (ci := 4) (pc := 45) [] [.ref 53] mv_X4_codeNow w_1254 (k_X4_codeNow _ hc13) rfl (by decide) rfl rfl rfl ⟨⟨Nat.le_of_ble_eq_true rfl, Nat.le_of_ble_eq_true rfl⟩, Nat.le_of_ble_eq_true rfl, Nat.le_of_ble_eq_true rfl⟩ (Nat.le_of_ble_eq_true rfl) dX4_fewestWithoutLast_45 (Jk_v rfl rfl fun hok14 => ?_)
      refine J_iconst (v := (3 : Int32)) (pc := 48) dX4_fewestWithoutLast_48 (by decide) ?_
      obtain ⟨M15, hc16, h⟩ := obind_e h
      refine J_callV (g := mi_X4_from) (ci := 4) (pc := 49) [.int v12, .int (3 : Int32)] [] mv_X4_from w_1453 (k_X4_from v12 (3 : Int32) _ hc16) rfl (by decide) rfl rfl rfl ⟨⟨Nat.le_of_ble_eq_true rfl, Nat.le_of_ble_eq_true rfl⟩, Nat.le_of_ble_eq_true rfl, Nat.le_of_ble_eq_true rfl⟩ (Nat.le_of_ble_eq_true rfl) dX4_fewestWithoutLast_49 (Jk_0 rfl rfl ?_)
      refine J_aload_n (pc := 52) dX4_fewestWithoutLast_52 rfl 0 rfl ?_
      obtain ⟨v17, hc18, h⟩ := obind_e h
      refine J_callV (g := mi_X4_leastEnd) (ci := 4) (pc := 53) [] [] mv_X4_leastEnd w_1457 (k_X4_leastEnd _ hc18) rfl (by decide) rfl rfl rfl ⟨⟨Nat.le_of_ble_eq_true rfl, Nat.le_of_ble_eq_true rfl⟩, Nat.le_of_ble_eq_true rfl, Nat.le_of_ble_eq_true rfl⟩ (Nat.le_of_ble_eq_true rfl) dX4_fewestWithoutLast_53 (Jk_v rfl rfl fun hok19 => ?_)
      cases h
      exact J_ireturn dX4_fewestWithoutLast_56 rfl rfl rfl rfl rfl
    · replace h := ifn c9 h
      refine J_iconst (v := (0 : Int32)) (pc := 22) dX4_fewestWithoutLast_22 (by decide) ?_
      cases h
      exact J_ireturn dX4_fewestWithoutLast_23 rfl rfl rfl rfl rfl
  · refine J_icmp_le (pc := 8) (tgt := 15) dX4_fewestWithoutLast_8 (by decide) (fun c3 => ?_) (fun c3 => ?_)
    · refine J_iconst (v := (1 : Int32)) (pc := 15) dX4_fewestWithoutLast_15 (by decide) ?_
      refine J_topi (y := v1) (by rw [e2, if_pos c3]) ?_
      exact hJ
    · refine J_iconst (v := (0 : Int32)) (pc := 11) dX4_fewestWithoutLast_11 (by decide) ?_
      refine J_goto (pc := 12) (tgt := 16) dX4_fewestWithoutLast_12 (by decide) ?_
      refine J_topi (y := v1) (by rw [e2, if_neg c3]) ?_
      exact hJ
set_option maxHeartbeats 4000000 in
set_option maxRecDepth 100000 in
theorem k_X4_fewestWithWall {E : En} (a1 : Int32) (M : Wd) {r : Int32} {M' : Wd} (h : F_X4_fewestWithWall a1 M = some (r, M')) : Con E mi_X4_fewestWithWall [.ref 53, .int a1] M (.inl (some (.int r))) M' := by
  unfold F_X4_fewestWithWall at h
  refine Con.of (by decide) rfl (Nat.le_of_ble_eq_true rfl) (fun κ => ?_)
  show J κ E mi_X4_fewestWithWall _ 0 0 [(0, .ref 53), (1, .int a1)] M 0 []
  refine J_aload_n (pc := 0) dX4_fewestWithWall_0 rfl 0 rfl ?_
  refine J_iload_n (pc := 1) dX4_fewestWithWall_1 rfl 1 rfl ?_
  refine J_callS (g := mi_X4_isCell) (pc := 2) [.int a1] [.ref 53] ms_X4_isCell w_1143 (k_X4_isCell a1 _) rfl rfl ⟨⟨Nat.le_of_ble_eq_true rfl, Nat.le_of_ble_eq_true rfl⟩, Nat.le_of_ble_eq_true rfl, Nat.le_of_ble_eq_true rfl⟩ (Nat.le_of_ble_eq_true rfl) dX4_fewestWithWall_2 (Jk_v rfl rfl fun hok1 => ?_)
  obtain ⟨v2, hv8, h⟩ := obind_e h
  refine J_join [(0, .ref 53), (1, .int a1)] M 29 [.int v2, .ref 53] ?_ (fun hJ => ?_)
  · obtain ⟨v9, M10, hc11, h⟩ := obind2_e h
    refine J_callV (g := mi_X4_refused) (ci := 4) (pc := 29) [.int v2] [] mv_X4_refused w_1120 (k_X4_refused v2 _ hc11) rfl (by decide) rfl rfl rfl ⟨⟨Nat.le_of_ble_eq_true rfl, Nat.le_of_ble_eq_true rfl⟩, Nat.le_of_ble_eq_true rfl, Nat.le_of_ble_eq_true rfl⟩ (Nat.le_of_ble_eq_true rfl) dX4_fewestWithWall_29 (Jk_v rfl rfl fun hok12 => ?_)
    refine J_if_eq (pc := 32) (tgt := 37) dX4_fewestWithWall_32 (by decide) (fun c13 => ?_) (fun c13 => ?_)
    · replace h := ifp c13 h
      refine J_aload_n (pc := 37) dX4_fewestWithWall_37 rfl 0 rfl ?_
      refine get_53_3 (pc := 38) w_1026 dX4_fewestWithWall_38 ?_
      refine J_iconst (v := (0 : Int32)) (pc := 41) dX4_fewestWithWall_41 (by decide) ?_
      refine J_iald (c := 55) (N := 82) (pc := 42) ja_55 (Nat.le_of_ble_eq_true rfl) (vpc rfl) dX4_fewestWithWall_42 ?_
      refine J_topi (x := M10.1 55 (Int32.toNatClampNeg 0)) (y := (M10.1 55 0)) (Eq.symm (a := M10.1 55 (Int32.toNatClampNeg 0)) (show M10.1 55 0 = (M10.1 55 0) from rfl)) ?_
      refine J_if_ne (pc := 43) (tgt := 48) dX4_fewestWithWall_43 (by decide) (fun c14 => ?_) (fun c14 => ?_)
      · replace h := ifn c14 h
        refine J_aload_n (pc := 48) dX4_fewestWithWall_48 rfl 0 rfl ?_
        refine J_aload_n (pc := 49) dX4_fewestWithWall_49 rfl 0 rfl ?_
        refine get_53_3 (pc := 50) w_1026 dX4_fewestWithWall_50 ?_
        refine J_iconst (v := (0 : Int32)) (pc := 53) dX4_fewestWithWall_53 (by decide) ?_
        refine J_iald (c := 55) (N := 82) (pc := 54) ja_55 (Nat.le_of_ble_eq_true rfl) (vpc rfl) dX4_fewestWithWall_54 ?_
        refine J_topi (x := M10.1 55 (Int32.toNatClampNeg 0)) (y := (M10.1 55 0)) (Eq.symm (a := M10.1 55 (Int32.toNatClampNeg 0)) (show M10.1 55 0 = (M10.1 55 0) from rfl)) ?_
        refine J_aload_n (pc := 55) dX4_fewestWithWall_55 rfl 0 rfl ?_
        refine get_53_3 (pc := 56) w_1026 dX4_fewestWithWall_56 ?_
        refine J_bipush (v := (19 : Int32)) (pc := 59) dX4_fewestWithWall_59 (by decide) ?_
        refine J_iald (c := 55) (N := 82) (pc := 61) ja_55 (Nat.le_of_ble_eq_true rfl) (vpc rfl) dX4_fewestWithWall_61 ?_
        refine J_topi (x := M10.1 55 (Int32.toNatClampNeg 19)) (y := (M10.1 55 19)) (Eq.symm (a := M10.1 55 (Int32.toNatClampNeg 19)) (show M10.1 55 19 = (M10.1 55 19) from rfl)) ?_
        refine J_iconst (v := (1 : Int32)) (pc := 62) dX4_fewestWithWall_62 (by decide) ?_
        refine J_iload_n (pc := 63) dX4_fewestWithWall_63 rfl 1 rfl ?_
        refine J_ishl (pc := 64) dX4_fewestWithWall_64 ?_
        refine J_ior (pc := 65) dX4_fewestWithWall_65 ?_
        obtain ⟨M15, hc16, h⟩ := obind_e h
        refine J_callV (g := mi_X4_prepares) (ci := 4) (pc := 66) [.int (M10.1 55 0), .int ((M10.1 55 19) ||| ((1 : Int32) <<< (a1 &&& 31)))] [] mv_X4_prepares w_1218 (k_X4_prepares (M10.1 55 0) ((M10.1 55 19) ||| ((1 : Int32) <<< (a1 &&& 31))) _ hc16) rfl (by decide) rfl rfl rfl ⟨⟨Nat.le_of_ble_eq_true rfl, Nat.le_of_ble_eq_true rfl⟩, Nat.le_of_ble_eq_true rfl, Nat.le_of_ble_eq_true rfl⟩ (Nat.le_of_ble_eq_true rfl) dX4_fewestWithWall_66 (Jk_0 rfl rfl ?_)
        refine J_aload_n (pc := 69) dX4_fewestWithWall_69 rfl 0 rfl ?_
        refine J_aload_n (pc := 70) dX4_fewestWithWall_70 rfl 0 rfl ?_
        obtain ⟨v17, hc18, h⟩ := obind_e h
        refine J_callV (g := mi_X4_codeNow) (ci := 4) (pc := 71) [] [.ref 53] mv_X4_codeNow w_1254 (k_X4_codeNow _ hc18) rfl (by decide) rfl rfl rfl ⟨⟨Nat.le_of_ble_eq_true rfl, Nat.le_of_ble_eq_true rfl⟩, Nat.le_of_ble_eq_true rfl, Nat.le_of_ble_eq_true rfl⟩ (Nat.le_of_ble_eq_true rfl) dX4_fewestWithWall_71 (Jk_v rfl rfl fun hok19 => ?_)
        refine J_iconst (v := (3 : Int32)) (pc := 74) dX4_fewestWithWall_74 (by decide) ?_
        obtain ⟨M20, hc21, h⟩ := obind_e h
        refine J_callV (g := mi_X4_from) (ci := 4) (pc := 75) [.int v17, .int (3 : Int32)] [] mv_X4_from w_1453 (k_X4_from v17 (3 : Int32) _ hc21) rfl (by decide) rfl rfl rfl ⟨⟨Nat.le_of_ble_eq_true rfl, Nat.le_of_ble_eq_true rfl⟩, Nat.le_of_ble_eq_true rfl, Nat.le_of_ble_eq_true rfl⟩ (Nat.le_of_ble_eq_true rfl) dX4_fewestWithWall_75 (Jk_0 rfl rfl ?_)
        refine J_aload_n (pc := 78) dX4_fewestWithWall_78 rfl 0 rfl ?_
        obtain ⟨v22, hc23, h⟩ := obind_e h
        refine J_callV (g := mi_X4_leastEnd) (ci := 4) (pc := 79) [] [] mv_X4_leastEnd w_1457 (k_X4_leastEnd _ hc23) rfl (by decide) rfl rfl rfl ⟨⟨Nat.le_of_ble_eq_true rfl, Nat.le_of_ble_eq_true rfl⟩, Nat.le_of_ble_eq_true rfl, Nat.le_of_ble_eq_true rfl⟩ (Nat.le_of_ble_eq_true rfl) dX4_fewestWithWall_79 (Jk_v rfl rfl fun hok24 => ?_)
        cases h
        exact J_ireturn dX4_fewestWithWall_82 rfl rfl rfl rfl rfl
      · replace h := ifp c14 h
        refine J_iconst (v := (-1 : Int32)) (pc := 46) dX4_fewestWithWall_46 (by decide) ?_
        cases h
        exact J_ireturn dX4_fewestWithWall_47 rfl rfl rfl rfl rfl
    · replace h := ifn c13 h
      refine J_iconst (v := (0 : Int32)) (pc := 35) dX4_fewestWithWall_35 (by decide) ?_
      cases h
      exact J_ireturn dX4_fewestWithWall_36 rfl rfl rfl rfl rfl
  · replace h := hv8
    refine J_if_ne (pc := 5) (tgt := 12) dX4_fewestWithWall_5 (by decide) (fun c3 => ?_) (fun c3 => ?_)
    · replace h := ifn c3 h
      refine J_aload_n (pc := 12) dX4_fewestWithWall_12 rfl 0 rfl ?_
      obtain ⟨v4, hc5, h⟩ := obind_e h
      refine J_callV (g := mi_X4_occupied) (ci := 4) (pc := 13) [] [.ref 53] mv_X4_occupied w_1112 (k_X4_occupied _ hc5) rfl (by decide) rfl rfl rfl ⟨⟨Nat.le_of_ble_eq_true rfl, Nat.le_of_ble_eq_true rfl⟩, Nat.le_of_ble_eq_true rfl, Nat.le_of_ble_eq_true rfl⟩ (Nat.le_of_ble_eq_true rfl) dX4_fewestWithWall_13 (Jk_v rfl rfl fun hok6 => ?_)
      refine J_iload_n (pc := 16) dX4_fewestWithWall_16 rfl 1 rfl ?_
      refine J_ishr (pc := 17) dX4_fewestWithWall_17 ?_
      refine J_iconst (v := (1 : Int32)) (pc := 18) dX4_fewestWithWall_18 (by decide) ?_
      refine J_iand (pc := 19) dX4_fewestWithWall_19 ?_
      refine J_iconst (v := (1 : Int32)) (pc := 20) dX4_fewestWithWall_20 (by decide) ?_
      refine J_icmp_ne (pc := 21) (tgt := 28) dX4_fewestWithWall_21 (by decide) (fun c7 => ?_) (fun c7 => ?_)
      · replace h := ifn c7 h
        refine J_iconst (v := (0 : Int32)) (pc := 28) dX4_fewestWithWall_28 (by decide) ?_
        cases h
        exact hJ
      · replace h := ifp c7 h
        refine J_iconst (v := (2 : Int32)) (pc := 24) dX4_fewestWithWall_24 (by decide) ?_
        refine J_goto (pc := 25) (tgt := 29) dX4_fewestWithWall_25 (by decide) ?_
        cases h
        exact hJ
    · replace h := ifp c3 h
      refine J_iconst (v := (1 : Int32)) (pc := 8) dX4_fewestWithWall_8 (by decide) ?_
      refine J_goto (pc := 9) (tgt := 29) dX4_fewestWithWall_9 (by decide) ?_
      cases h
      exact hJ
set_option maxHeartbeats 4000000 in
set_option maxRecDepth 100000 in
theorem k_X4_share {E : En} (M : Wd) {r : UInt64} {M' : Wd} (h : F_X4_share M = some (r, M')) : Con E mi_X4_share [.ref 53] M (.inl (some (.double r))) M' := by
  unfold F_X4_share at h
  refine Con.of (by decide) rfl (Nat.le_of_ble_eq_true rfl) (fun κ => ?_)
  show J κ E mi_X4_share _ 0 0 [(0, .ref 53)] M 0 []
  refine J_aload_n (pc := 0) dX4_share_0 rfl 0 rfl ?_
  refine J_iconst (v := (0 : Int32)) (pc := 1) dX4_share_1 (by decide) ?_
  obtain ⟨v1, M2, hc3, h⟩ := obind2_e h
  refine J_callV (g := mi_X4_reached) (ci := 4) (pc := 2) [.int (0 : Int32)] [] mv_X4_reached w_1509 (k_X4_reached (0 : Int32) _ hc3) rfl (by decide) rfl rfl rfl ⟨⟨Nat.le_of_ble_eq_true rfl, Nat.le_of_ble_eq_true rfl⟩, Nat.le_of_ble_eq_true rfl, Nat.le_of_ble_eq_true rfl⟩ (Nat.le_of_ble_eq_true rfl) dX4_share_2 (Jk_v rfl rfl fun hok4 => ?_)
  refine J_istore_n (pc := 5) dX4_share_5 rfl (Nat.le_of_ble_eq_true rfl) [1, 0] rfl ?_
  refine J_iload_n (pc := 6) dX4_share_6 rfl 1 rfl ?_
  refine J_i2d (pc := 7) dX4_share_7 ?_
  refine J_aload_n (pc := 8) dX4_share_8 rfl 0 rfl ?_
  obtain ⟨v5, M6, hc7, h⟩ := obind2_e h
  refine J_callV (g := mi_X4_all) (ci := 4) (pc := 9) [] [.double (FP.i2d v1)] mv_X4_all w_1525 (k_X4_all _ hc7) rfl (by decide) rfl rfl rfl ⟨⟨Nat.le_of_ble_eq_true rfl, Nat.le_of_ble_eq_true rfl⟩, Nat.le_of_ble_eq_true rfl, Nat.le_of_ble_eq_true rfl⟩ (Nat.le_of_ble_eq_true rfl) dX4_share_9 (Jk_v rfl rfl fun hok8 => ?_)
  refine J_i2d (pc := 12) dX4_share_12 ?_
  obtain ⟨hn9, h⟩ := grd_e h
  refine J_ddiv (pc := 13) dX4_share_13 hn9 ?_
  cases h
  exact J_dreturn dX4_share_14 rfl rfl rfl rfl rfl
set_option maxHeartbeats 4000000 in
set_option maxRecDepth 100000 in
theorem k_X4_reachedShare {E : En} (M : Wd) {r : UInt64} {M' : Wd} (h : F_X4_reachedShare M = some (r, M')) : Con E mi_X4_reachedShare [.ref 53] M (.inl (some (.double r))) M' := by
  unfold F_X4_reachedShare at h
  refine Con.of (by decide) rfl (Nat.le_of_ble_eq_true rfl) (fun κ => ?_)
  show J κ E mi_X4_reachedShare _ 0 0 [(0, .ref 53)] M 0 []
  refine J_aload_n (pc := 0) dX4_reachedShare_0 rfl 0 rfl ?_
  refine J_iconst (v := (0 : Int32)) (pc := 1) dX4_reachedShare_1 (by decide) ?_
  refine put_53_0 (pc := 2) w_1023 dX4_reachedShare_2 ?_
  refine J_aload_n (pc := 5) dX4_reachedShare_5 rfl 0 rfl ?_
  obtain ⟨v1, M2, hc3, h⟩ := obind2_e h
  refine J_callV (g := mi_X4_share) (ci := 4) (pc := 6) [] [] mv_X4_share w_1545 (k_X4_share _ hc3) rfl (by decide) rfl rfl rfl ⟨⟨Nat.le_of_ble_eq_true rfl, Nat.le_of_ble_eq_true rfl⟩, Nat.le_of_ble_eq_true rfl, Nat.le_of_ble_eq_true rfl⟩ (Nat.le_of_ble_eq_true rfl) dX4_reachedShare_6 (Jk_v rfl rfl fun hok4 => ?_)
  cases h
  exact J_dreturn dX4_reachedShare_9 rfl rfl rfl rfl rfl
set_option maxHeartbeats 4000000 in
set_option maxRecDepth 100000 in
theorem k_X4_adds {E : En} (a1 : Int64) (M : Wd) {M' : Wd} (h : F_X4_adds a1 M = some M') : Con E mi_X4_adds [.ref 53, .long a1] M (.inl none) M' := by
  unfold F_X4_adds at h
  refine Con.of (by decide) rfl (Nat.le_of_ble_eq_true rfl) (fun κ => ?_)
  show J κ E mi_X4_adds _ 0 0 [(0, .ref 53), (1, .long a1)] M 0 []
  refine J_aload_n (pc := 0) dX4_adds_0 rfl 0 rfl ?_
  refine J_ldc2 (pc := 1) w_1558 dX4_adds_1 ?_
  refine J_aload_n (pc := 4) dX4_adds_4 rfl 0 rfl ?_
  refine get_53_21 (pc := 5) w_1044 dX4_adds_5 ?_
  refine J_lmul (pc := 8) dX4_adds_8 ?_
  refine J_lload_n (pc := 9) dX4_adds_9 rfl 1 rfl ?_
  refine J_ladd (pc := 10) dX4_adds_10 ?_
  refine put_53_21 (pc := 11) w_1044 dX4_adds_11 ?_
  cases h
  exact J_return dX4_adds_14 rfl rfl rfl rfl rfl
set_option maxHeartbeats 4000000 in
set_option maxRecDepth 100000 in
theorem k_X4_addsCar {E : En} (a1 : Int32) (M : Wd) {M' : Wd} (h : F_X4_addsCar a1 M = some M') : Con E mi_X4_addsCar [.ref 53, .int a1] M (.inl none) M' := by
  unfold F_X4_addsCar at h
  refine Con.of (by decide) rfl (Nat.le_of_ble_eq_true rfl) (fun κ => ?_)
  show J κ E mi_X4_addsCar _ 0 0 [(0, .ref 53), (1, .int a1)] M 0 []
  refine J_aload_n (pc := 0) dX4_addsCar_0 rfl 0 rfl ?_
  refine J_aload_n (pc := 1) dX4_addsCar_1 rfl 0 rfl ?_
  refine get_53_3 (pc := 2) w_1026 dX4_addsCar_2 ?_
  refine J_iconst (v := (1 : Int32)) (pc := 5) dX4_addsCar_5 (by decide) ?_
  refine J_iload_n (pc := 6) dX4_addsCar_6 rfl 1 rfl ?_
  refine J_iadd (pc := 7) dX4_addsCar_7 ?_
  obtain ⟨v1, e2, hk3, h⟩ := ldi_e h
  refine J_iald (c := 55) (N := 82) (pc := 8) ja_55 (Nat.le_of_ble_eq_true rfl) hk3 dX4_addsCar_8 ?_
  refine J_topi e2 ?_
  refine J_i2l (pc := 9) dX4_addsCar_9 ?_
  obtain ⟨M4, hc5, h⟩ := obind_e h
  refine J_callV (g := mi_X4_adds) (ci := 4) (pc := 10) [.long v1.toInt64] [] mv_X4_adds w_1554 (k_X4_adds v1.toInt64 _ hc5) rfl (by decide) rfl rfl rfl ⟨⟨Nat.le_of_ble_eq_true rfl, Nat.le_of_ble_eq_true rfl⟩, Nat.le_of_ble_eq_true rfl, Nat.le_of_ble_eq_true rfl⟩ (Nat.le_of_ble_eq_true rfl) dX4_addsCar_10 (Jk_0 rfl rfl ?_)
  refine J_aload_n (pc := 13) dX4_addsCar_13 rfl 0 rfl ?_
  refine J_aload_n (pc := 14) dX4_addsCar_14 rfl 0 rfl ?_
  refine get_53_3 (pc := 15) w_1026 dX4_addsCar_15 ?_
  refine J_bipush (v := (7 : Int32)) (pc := 18) dX4_addsCar_18 (by decide) ?_
  refine J_iload_n (pc := 20) dX4_addsCar_20 rfl 1 rfl ?_
  refine J_iadd (pc := 21) dX4_addsCar_21 ?_
  obtain ⟨v6, e7, hk8, h⟩ := ldi_e h
  refine J_iald (c := 55) (N := 82) (pc := 22) ja_55 (Nat.le_of_ble_eq_true rfl) hk8 dX4_addsCar_22 ?_
  refine J_topi e7 ?_
  refine J_i2l (pc := 23) dX4_addsCar_23 ?_
  obtain ⟨M9, hc10, h⟩ := obind_e h
  refine J_callV (g := mi_X4_adds) (ci := 4) (pc := 24) [.long v6.toInt64] [] mv_X4_adds w_1554 (k_X4_adds v6.toInt64 _ hc10) rfl (by decide) rfl rfl rfl ⟨⟨Nat.le_of_ble_eq_true rfl, Nat.le_of_ble_eq_true rfl⟩, Nat.le_of_ble_eq_true rfl, Nat.le_of_ble_eq_true rfl⟩ (Nat.le_of_ble_eq_true rfl) dX4_addsCar_24 (Jk_0 rfl rfl ?_)
  refine J_aload_n (pc := 27) dX4_addsCar_27 rfl 0 rfl ?_
  refine J_aload_n (pc := 28) dX4_addsCar_28 rfl 0 rfl ?_
  refine get_53_3 (pc := 29) w_1026 dX4_addsCar_29 ?_
  refine J_bipush (v := (13 : Int32)) (pc := 32) dX4_addsCar_32 (by decide) ?_
  refine J_iload_n (pc := 34) dX4_addsCar_34 rfl 1 rfl ?_
  refine J_iadd (pc := 35) dX4_addsCar_35 ?_
  obtain ⟨v11, e12, hk13, h⟩ := ldi_e h
  refine J_iald (c := 55) (N := 82) (pc := 36) ja_55 (Nat.le_of_ble_eq_true rfl) hk13 dX4_addsCar_36 ?_
  refine J_topi e12 ?_
  refine J_i2l (pc := 37) dX4_addsCar_37 ?_
  obtain ⟨M14, hc15, h⟩ := obind_e h
  refine J_callV (g := mi_X4_adds) (ci := 4) (pc := 38) [.long v11.toInt64] [] mv_X4_adds w_1554 (k_X4_adds v11.toInt64 _ hc15) rfl (by decide) rfl rfl rfl ⟨⟨Nat.le_of_ble_eq_true rfl, Nat.le_of_ble_eq_true rfl⟩, Nat.le_of_ble_eq_true rfl, Nat.le_of_ble_eq_true rfl⟩ (Nat.le_of_ble_eq_true rfl) dX4_addsCar_38 (Jk_0 rfl rfl ?_)
  refine J_aload_n (pc := 41) dX4_addsCar_41 rfl 0 rfl ?_
  refine J_aload_n (pc := 42) dX4_addsCar_42 rfl 0 rfl ?_
  refine J_iload_n (pc := 43) dX4_addsCar_43 rfl 1 rfl ?_
  obtain ⟨v16, hc17, h⟩ := obind_e h
  refine J_callV (g := mi_X4_stepsBy) (ci := 4) (pc := 44) [.int a1] [.ref 53] mv_X4_stepsBy w_1429 (k_X4_stepsBy a1 _ hc17) rfl (by decide) rfl rfl rfl ⟨⟨Nat.le_of_ble_eq_true rfl, Nat.le_of_ble_eq_true rfl⟩, Nat.le_of_ble_eq_true rfl, Nat.le_of_ble_eq_true rfl⟩ (Nat.le_of_ble_eq_true rfl) dX4_addsCar_44 (Jk_v rfl rfl fun hok18 => ?_)
  refine J_i2l (pc := 47) dX4_addsCar_47 ?_
  obtain ⟨M19, hc20, h⟩ := obind_e h
  refine J_callV (g := mi_X4_adds) (ci := 4) (pc := 48) [.long v16.toInt64] [] mv_X4_adds w_1554 (k_X4_adds v16.toInt64 _ hc20) rfl (by decide) rfl rfl rfl ⟨⟨Nat.le_of_ble_eq_true rfl, Nat.le_of_ble_eq_true rfl⟩, Nat.le_of_ble_eq_true rfl, Nat.le_of_ble_eq_true rfl⟩ (Nat.le_of_ble_eq_true rfl) dX4_addsCar_48 (Jk_0 rfl rfl ?_)
  refine J_aload_n (pc := 51) dX4_addsCar_51 rfl 0 rfl ?_
  refine J_aload_n (pc := 52) dX4_addsCar_52 rfl 0 rfl ?_
  refine J_iload_n (pc := 53) dX4_addsCar_53 rfl 1 rfl ?_
  refine J_iconst (v := (1 : Int32)) (pc := 54) dX4_addsCar_54 (by decide) ?_
  obtain ⟨v21, hc22, h⟩ := obind_e h
  refine J_callV (g := mi_X4_space) (ci := 4) (pc := 55) [.int a1, .int (1 : Int32)] [.ref 53] mv_X4_space w_1178 (k_X4_space a1 (1 : Int32) _ hc22) rfl (by decide) rfl rfl rfl ⟨⟨Nat.le_of_ble_eq_true rfl, Nat.le_of_ble_eq_true rfl⟩, Nat.le_of_ble_eq_true rfl, Nat.le_of_ble_eq_true rfl⟩ (Nat.le_of_ble_eq_true rfl) dX4_addsCar_55 (Jk_v rfl rfl fun hok23 => ?_)
  refine J_i2l (pc := 58) dX4_addsCar_58 ?_
  obtain ⟨M24, hc25, h⟩ := obind_e h
  refine J_callV (g := mi_X4_adds) (ci := 4) (pc := 59) [.long v21.toInt64] [] mv_X4_adds w_1554 (k_X4_adds v21.toInt64 _ hc25) rfl (by decide) rfl rfl rfl ⟨⟨Nat.le_of_ble_eq_true rfl, Nat.le_of_ble_eq_true rfl⟩, Nat.le_of_ble_eq_true rfl, Nat.le_of_ble_eq_true rfl⟩ (Nat.le_of_ble_eq_true rfl) dX4_addsCar_59 (Jk_0 rfl rfl ?_)
  refine J_aload_n (pc := 62) dX4_addsCar_62 rfl 0 rfl ?_
  refine J_aload_n (pc := 63) dX4_addsCar_63 rfl 0 rfl ?_
  refine J_iload_n (pc := 64) dX4_addsCar_64 rfl 1 rfl ?_
  refine J_iconst (v := (-1 : Int32)) (pc := 65) dX4_addsCar_65 (by decide) ?_
  obtain ⟨v26, hc27, h⟩ := obind_e h
  refine J_callV (g := mi_X4_space) (ci := 4) (pc := 66) [.int a1, .int (-1 : Int32)] [.ref 53] mv_X4_space w_1178 (k_X4_space a1 (-1 : Int32) _ hc27) rfl (by decide) rfl rfl rfl ⟨⟨Nat.le_of_ble_eq_true rfl, Nat.le_of_ble_eq_true rfl⟩, Nat.le_of_ble_eq_true rfl, Nat.le_of_ble_eq_true rfl⟩ (Nat.le_of_ble_eq_true rfl) dX4_addsCar_66 (Jk_v rfl rfl fun hok28 => ?_)
  refine J_i2l (pc := 69) dX4_addsCar_69 ?_
  obtain ⟨M29, hc30, h⟩ := obind_e h
  refine J_callV (g := mi_X4_adds) (ci := 4) (pc := 70) [.long v26.toInt64] [] mv_X4_adds w_1554 (k_X4_adds v26.toInt64 _ hc30) rfl (by decide) rfl rfl rfl ⟨⟨Nat.le_of_ble_eq_true rfl, Nat.le_of_ble_eq_true rfl⟩, Nat.le_of_ble_eq_true rfl, Nat.le_of_ble_eq_true rfl⟩ (Nat.le_of_ble_eq_true rfl) dX4_addsCar_70 (Jk_0 rfl rfl ?_)
  cases h
  exact J_return dX4_addsCar_73 rfl rfl rfl rfl rfl

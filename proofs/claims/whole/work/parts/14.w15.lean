/-! ===== walks of the methods, 15 ===== -/
set_option maxHeartbeats 4000000 in
set_option maxRecDepth 100000 in
theorem k_X4_freeCells {E : En} (M : Wd) {r : Int32} {M' : Wd} (h : F_X4_freeCells M = some (r, M')) : Con E mi_X4_freeCells [.ref 53] M (.inl (some (.int r))) M' := by
  unfold F_X4_freeCells at h
  refine Con.of (by decide) rfl (Nat.le_of_ble_eq_true rfl) (fun κ => ?_)
  show J κ E mi_X4_freeCells _ 0 0 [(0, .ref 53)] M 0 []
  refine J_aload_n (pc := 0) dX4_freeCells_0 rfl 0 rfl ?_
  refine J_bipush (v := (25 : Int32)) (pc := 1) dX4_freeCells_1 (by decide) ?_
  refine J_aload_n (pc := 3) dX4_freeCells_3 rfl 0 rfl ?_
  refine J_LS [(0, .ref 53)] [.ref 53, .int (25 : Int32), .ref 53] rfl rfl ?_
  obtain ⟨v1, hc2, h⟩ := obind_e h
  refine J_callV (g := mi_X4_occupied) (ci := 4) (pc := 4) [] [.int (25 : Int32), .ref 53] mv_X4_occupied w_1112 (k_X4_occupied _ hc2) rfl (by decide) rfl rfl rfl ⟨⟨Nat.le_of_ble_eq_true rfl, Nat.le_of_ble_eq_true rfl⟩, Nat.le_of_ble_eq_true rfl, Nat.le_of_ble_eq_true rfl⟩ (Nat.le_of_ble_eq_true rfl) dX4_freeCells_4 (Jk_v rfl rfl fun hok3 => ?_)
  obtain ⟨v4, hc5, h⟩ := obind_e h
  refine J_callS (g := mi_X4_bits) (pc := 7) [.int v1] [.int (25 : Int32), .ref 53] ms_X4_bits w_1155 (k_X4_bits v1 _ hc5) rfl rfl ⟨⟨Nat.le_of_ble_eq_true rfl, Nat.le_of_ble_eq_true rfl⟩, Nat.le_of_ble_eq_true rfl, Nat.le_of_ble_eq_true rfl⟩ (Nat.le_of_ble_eq_true rfl) dX4_freeCells_7 (Jk_v rfl rfl fun hok6 => ?_)
  refine J_isub (pc := 10) dX4_freeCells_10 ?_
  obtain ⟨v7, M8, hc9, h⟩ := obind2_e h
  refine J_callV (g := mi_X4_told) (ci := 4) (pc := 11) [.int ((25 : Int32) - v4)] [] mv_X4_told w_1349 (k_X4_told ((25 : Int32) - v4) _ hc9) rfl (by decide) rfl rfl rfl ⟨⟨Nat.le_of_ble_eq_true rfl, Nat.le_of_ble_eq_true rfl⟩, Nat.le_of_ble_eq_true rfl, Nat.le_of_ble_eq_true rfl⟩ (Nat.le_of_ble_eq_true rfl) dX4_freeCells_11 (Jk_v rfl rfl fun hok10 => ?_)
  cases h
  exact J_ireturn dX4_freeCells_14 rfl rfl rfl rfl rfl
set_option maxHeartbeats 4000000 in
set_option maxRecDepth 100000 in
theorem k_X4_isOut {E : En} (M : Wd) {r : Int32} {M' : Wd} (h : F_X4_isOut M = some (r, M')) : Con E mi_X4_isOut [.ref 53] M (.inl (some (.int r))) M' := by
  unfold F_X4_isOut at h
  refine Con.of (by decide) rfl (Nat.le_of_ble_eq_true rfl) (fun κ => ?_)
  show J κ E mi_X4_isOut _ 0 0 [(0, .ref 53)] M 0 []
  refine J_aload_n (pc := 0) dX4_isOut_0 rfl 0 rfl ?_
  refine J_iconst (v := (0 : Int32)) (pc := 1) dX4_isOut_1 (by decide) ?_
  refine put_53_0 (pc := 2) w_1023 dX4_isOut_2 ?_
  refine J_aload_n (pc := 5) dX4_isOut_5 rfl 0 rfl ?_
  refine J_LS [(0, .ref 53)] [.ref 53] rfl rfl ?_
  refine J_callV (g := mi_X4_isFree) (ci := 4) (pc := 6) [] [] mv_X4_isFree w_1393 (k_X4_isFree _) rfl (by decide) rfl rfl rfl ⟨⟨Nat.le_of_ble_eq_true rfl, Nat.le_of_ble_eq_true rfl⟩, Nat.le_of_ble_eq_true rfl, Nat.le_of_ble_eq_true rfl⟩ (Nat.le_of_ble_eq_true rfl) dX4_isOut_6 (Jk_v rfl rfl fun hok1 => ?_)
  cases h
  exact J_zreturn dX4_isOut_9 rfl (okB_b hok1) rfl rfl rfl rfl
set_option maxHeartbeats 4000000 in
set_option maxRecDepth 100000 in
theorem k_X4_room {E : En} (a1 : Int32) (a2 : Int32) (M : Wd) {r : Int32} {M' : Wd} (h : F_X4_room a1 a2 M = some (r, M')) : Con E mi_X4_room [.ref 53, .int a1, .int a2] M (.inl (some (.int r))) M' := by
  unfold F_X4_room at h
  refine Con.of (by decide) rfl (Nat.le_of_ble_eq_true rfl) (fun κ => ?_)
  show J κ E mi_X4_room _ 0 0 [(0, .ref 53), (1, .int a1), (2, .int a2)] M 0 []
  refine J_aload_n (pc := 0) dX4_room_0 rfl 0 rfl ?_
  refine J_iload_n (pc := 1) dX4_room_1 rfl 1 rfl ?_
  refine J_LS [(0, .ref 53), (1, .int a1), (2, .int a2)] [.int a1, .ref 53] rfl rfl ?_
  obtain ⟨v1, M2, hc3, h⟩ := obind2_e h
  refine J_callV (g := mi_X4_noCar) (ci := 4) (pc := 2) [.int a1] [] mv_X4_noCar w_1361 (k_X4_noCar a1 _ hc3) rfl (by decide) rfl rfl rfl ⟨⟨Nat.le_of_ble_eq_true rfl, Nat.le_of_ble_eq_true rfl⟩, Nat.le_of_ble_eq_true rfl, Nat.le_of_ble_eq_true rfl⟩ (Nat.le_of_ble_eq_true rfl) dX4_room_2 (Jk_v rfl rfl fun hok4 => ?_)
  refine J_if_eq (pc := 5) (tgt := 12) dX4_room_5 (by decide) (fun c5 => ?_) (fun c5 => ?_)
  · replace h := ifp c5 h
    refine J_aload_n (pc := 12) dX4_room_12 rfl 0 rfl ?_
    refine J_iload_n (pc := 13) dX4_room_13 rfl 1 rfl ?_
    refine J_LS [(0, .ref 53), (1, .int a1), (2, .int a2)] [.int a1, .ref 53] rfl rfl ?_
    refine J_iload_n (pc := 14) dX4_room_14 rfl 2 rfl ?_
    obtain ⟨v6, e7, h⟩ := bnd_e h
    refine J_join [] M2 23 [.int v6, .int a1, .ref 53] ?_ (fun hJ => ?_)
    · obtain ⟨v9, hc10, h⟩ := obind_e h
      refine J_callV (g := mi_X4_space) (ci := 4) (pc := 23) [.int a1, .int v6] [] mv_X4_space w_1178 (k_X4_space a1 v6 _ hc10) rfl (by decide) rfl rfl rfl ⟨⟨Nat.le_of_ble_eq_true rfl, Nat.le_of_ble_eq_true rfl⟩, Nat.le_of_ble_eq_true rfl, Nat.le_of_ble_eq_true rfl⟩ (Nat.le_of_ble_eq_true rfl) dX4_room_23 (Jk_v rfl rfl fun hok11 => ?_)
      cases h
      exact J_ireturn dX4_room_26 rfl rfl rfl rfl rfl
    · refine J_if_eq (pc := 15) (tgt := 22) dX4_room_15 (by decide) (fun c8 => ?_) (fun c8 => ?_)
      · refine J_iconst (v := (-1 : Int32)) (pc := 22) dX4_room_22 (by decide) ?_
        refine J_sub [] rfl ?_
        refine J_topi (y := v6) (by rw [e7, if_pos c8]) ?_
        exact hJ
      · refine J_iconst (v := (1 : Int32)) (pc := 18) dX4_room_18 (by decide) ?_
        refine J_goto (pc := 19) (tgt := 23) dX4_room_19 (by decide) ?_
        refine J_sub [] rfl ?_
        refine J_topi (y := v6) (by rw [e7, if_neg c8]) ?_
        exact hJ
  · replace h := ifn c5 h
    refine J_iconst (v := (0 : Int32)) (pc := 8) dX4_room_8 (by decide) ?_
    refine J_goto (pc := 9) (tgt := 26) dX4_room_9 (by decide) ?_
    cases h
    exact J_ireturn dX4_room_26 rfl rfl rfl rfl rfl
set_option maxHeartbeats 4000000 in
set_option maxRecDepth 100000 in
theorem kL_X4_slides_L4 {κ : Kx} {E : En} {Q : State → Prop} {ρ : Type} {r : ρ} (M : Wd) (K36 : Int32 → Option ρ) (hK36 : ∀ (x1 : Int32), K36 x1 = some r → J κ E mi_X4_slides Q 0 0 [(1, .int x1)] M 36 []) : ∀ (m : Nat) (x1 : Int32) (x2 : Int32), F_X4_slides_L4 M K36 m x1 x2 = some r → J κ E mi_X4_slides Q 0 0 [(0, .ref 53), (1, .int x1), (2, .int x2)] M 4 [] := by
  intro m
  induction m with
  | zero => intro x1 x2 h; exact (nomatch (show (none : Option ρ) = some r from h))
  | succ m ih =>
    intro x1 x2 h
    unfold F_X4_slides_L4 at h
    refine J_iload_n (pc := 4) dX4_slides_4 rfl 2 rfl ?_
    refine J_aload_n (pc := 5) dX4_slides_5 rfl 0 rfl ?_
    refine J_LS [(0, .ref 53), (1, .int x1), (2, .int x2)] [.ref 53, .int x2] rfl rfl ?_
    refine get_53_3 (pc := 6) w_1026 dX4_slides_6 ?_
    refine J_iconst (v := (0 : Int32)) (pc := 9) dX4_slides_9 (by decide) ?_
    refine J_iald (c := 55) (N := 82) (pc := 10) ja_55 (Nat.le_of_ble_eq_true rfl) (vpc rfl) dX4_slides_10 ?_
    refine J_topi (x := M.1 55 (Int32.toNatClampNeg 0)) (y := (M.1 55 0)) (Eq.symm (a := M.1 55 (Int32.toNatClampNeg 0)) (show M.1 55 0 = (M.1 55 0) from rfl)) ?_
    refine J_icmp_ge (pc := 11) (tgt := 36) dX4_slides_11 (by decide) (fun c1 => ?_) (fun c1 => ?_)
    · replace h := ifp c1 h
      refine J_sub [1] rfl ?_
      exact hK36 _ h
    · replace h := ifn c1 h
      refine J_iload_n (pc := 14) dX4_slides_14 rfl 1 rfl ?_
      refine J_aload_n (pc := 15) dX4_slides_15 rfl 0 rfl ?_
      refine J_LS [(0, .ref 53), (1, .int x1), (2, .int x2)] [.ref 53, .int x1] rfl rfl ?_
      refine J_iload_n (pc := 16) dX4_slides_16 rfl 2 rfl ?_
      refine J_iconst (v := (1 : Int32)) (pc := 17) dX4_slides_17 (by decide) ?_
      obtain ⟨v2, hc3, h⟩ := obind_e h
      refine J_callV (g := mi_X4_space) (ci := 4) (pc := 18) [.int x2, .int (1 : Int32)] [.int x1] mv_X4_space w_1178 (k_X4_space x2 (1 : Int32) _ hc3) rfl (by decide) rfl rfl rfl ⟨⟨Nat.le_of_ble_eq_true rfl, Nat.le_of_ble_eq_true rfl⟩, Nat.le_of_ble_eq_true rfl, Nat.le_of_ble_eq_true rfl⟩ (Nat.le_of_ble_eq_true rfl) dX4_slides_18 (Jk_v rfl rfl fun hok4 => ?_)
      refine J_aload_n (pc := 21) dX4_slides_21 rfl 0 rfl ?_
      refine J_LS [(0, .ref 53), (1, .int x1), (2, .int x2)] [.ref 53, .int v2, .int x1] rfl rfl ?_
      refine J_iload_n (pc := 22) dX4_slides_22 rfl 2 rfl ?_
      refine J_iconst (v := (-1 : Int32)) (pc := 23) dX4_slides_23 (by decide) ?_
      obtain ⟨v5, hc6, h⟩ := obind_e h
      refine J_callV (g := mi_X4_space) (ci := 4) (pc := 24) [.int x2, .int (-1 : Int32)] [.int v2, .int x1] mv_X4_space w_1178 (k_X4_space x2 (-1 : Int32) _ hc6) rfl (by decide) rfl rfl rfl ⟨⟨Nat.le_of_ble_eq_true rfl, Nat.le_of_ble_eq_true rfl⟩, Nat.le_of_ble_eq_true rfl, Nat.le_of_ble_eq_true rfl⟩ (Nat.le_of_ble_eq_true rfl) dX4_slides_24 (Jk_v rfl rfl fun hok7 => ?_)
      refine J_iadd (pc := 27) dX4_slides_27 ?_
      refine J_iadd (pc := 28) dX4_slides_28 ?_
      obtain ⟨v8, e9, h⟩ := bnd_e h
      refine J_topi e9 ?_
      refine J_istore_n (pc := 29) dX4_slides_29 rfl (Nat.le_of_ble_eq_true rfl) [1, 0, 2] rfl ?_
      refine J_LS [(0, .ref 53), (1, .int v8), (2, .int x2)] [] rfl rfl ?_
      obtain ⟨v10, e11, h⟩ := bnd_e h
      refine J_iinc (v := v10) (pc := 30) dX4_slides_30 2 rfl (by rw [e11]; rfl) (Nat.le_of_ble_eq_true rfl) [1, 2, 0] rfl ?_
      refine J_goto (pc := 33) (tgt := 4) dX4_slides_33 (by decide) ?_
      exact ih _ _ h
set_option maxHeartbeats 4000000 in
set_option maxRecDepth 100000 in
theorem k_X4_slides {E : En} (M : Wd) {r : Int32} (h : F_X4_slides M = some r) : Con E mi_X4_slides [.ref 53] M (.inl (some (.int r))) M := by
  unfold F_X4_slides at h
  refine Con.of (by decide) rfl (Nat.le_of_ble_eq_true rfl) (fun κ => ?_)
  show J κ E mi_X4_slides _ 0 0 [(0, .ref 53)] M 0 []
  refine J_iconst (v := (0 : Int32)) (pc := 0) dX4_slides_0 (by decide) ?_
  refine J_istore_n (pc := 1) dX4_slides_1 rfl (Nat.le_of_ble_eq_true rfl) [1, 0] rfl ?_
  refine J_iconst (v := (0 : Int32)) (pc := 2) dX4_slides_2 (by decide) ?_
  refine J_istore_n (pc := 3) dX4_slides_3 rfl (Nat.le_of_ble_eq_true rfl) [1, 2, 0] rfl ?_
  refine J_LS [(0, .ref 53), (1, .int (0 : Int32)), (2, .int (0 : Int32))] [] rfl rfl ?_
  refine kL_X4_slides_L4 _ _ (fun v12 h => ?_) fuelN _ _ h
  refine J_iload_n (pc := 36) dX4_slides_36 rfl 0 rfl ?_
  cases h
  exact J_ireturn dX4_slides_37 rfl rfl rfl rfl rfl
set_option maxHeartbeats 4000000 in
set_option maxRecDepth 100000 in
theorem k_X4_possibleSlides {E : En} (M : Wd) {r : Int32} {M' : Wd} (h : F_X4_possibleSlides M = some (r, M')) : Con E mi_X4_possibleSlides [.ref 53] M (.inl (some (.int r))) M' := by
  unfold F_X4_possibleSlides at h
  refine Con.of (by decide) rfl (Nat.le_of_ble_eq_true rfl) (fun κ => ?_)
  show J κ E mi_X4_possibleSlides _ 0 0 [(0, .ref 53)] M 0 []
  refine J_aload_n (pc := 0) dX4_possibleSlides_0 rfl 0 rfl ?_
  refine J_aload_n (pc := 1) dX4_possibleSlides_1 rfl 0 rfl ?_
  refine J_LS [(0, .ref 53)] [.ref 53, .ref 53] rfl rfl ?_
  obtain ⟨v1, hc2, h⟩ := obind_e h
  refine J_callV (g := mi_X4_slides) (ci := 4) (pc := 2) [] [.ref 53] mv_X4_slides w_1405 (k_X4_slides _ hc2) rfl (by decide) rfl rfl rfl ⟨⟨Nat.le_of_ble_eq_true rfl, Nat.le_of_ble_eq_true rfl⟩, Nat.le_of_ble_eq_true rfl, Nat.le_of_ble_eq_true rfl⟩ (Nat.le_of_ble_eq_true rfl) dX4_possibleSlides_2 (Jk_v rfl rfl fun hok3 => ?_)
  obtain ⟨v4, M5, hc6, h⟩ := obind2_e h
  refine J_callV (g := mi_X4_told) (ci := 4) (pc := 5) [.int v1] [] mv_X4_told w_1349 (k_X4_told v1 _ hc6) rfl (by decide) rfl rfl rfl ⟨⟨Nat.le_of_ble_eq_true rfl, Nat.le_of_ble_eq_true rfl⟩, Nat.le_of_ble_eq_true rfl, Nat.le_of_ble_eq_true rfl⟩ (Nat.le_of_ble_eq_true rfl) dX4_possibleSlides_5 (Jk_v rfl rfl fun hok7 => ?_)
  cases h
  exact J_ireturn dX4_possibleSlides_8 rfl rfl rfl rfl rfl
set_option maxHeartbeats 4000000 in
set_option maxRecDepth 100000 in
theorem k_X4_logged {E : En} (M : Wd) {r : Int32} {M' : Wd} (h : F_X4_logged M = some (r, M')) : Con E mi_X4_logged [.ref 53] M (.inl (some (.int r))) M' := by
  unfold F_X4_logged at h
  refine Con.of (by decide) rfl (Nat.le_of_ble_eq_true rfl) (fun κ => ?_)
  show J κ E mi_X4_logged _ 0 0 [(0, .ref 53)] M 0 []
  refine J_aload_n (pc := 0) dX4_logged_0 rfl 0 rfl ?_
  refine J_aload_n (pc := 1) dX4_logged_1 rfl 0 rfl ?_
  refine J_LS [(0, .ref 53)] [.ref 53, .ref 53] rfl rfl ?_
  refine get_53_3 (pc := 2) w_1026 dX4_logged_2 ?_
  refine J_bipush (v := (20 : Int32)) (pc := 5) dX4_logged_5 (by decide) ?_
  refine J_iald (c := 55) (N := 82) (pc := 7) ja_55 (Nat.le_of_ble_eq_true rfl) (vpc rfl) dX4_logged_7 ?_
  refine J_topi (x := M.1 55 (Int32.toNatClampNeg 20)) (y := (M.1 55 20)) (Eq.symm (a := M.1 55 (Int32.toNatClampNeg 20)) (show M.1 55 20 = (M.1 55 20) from rfl)) ?_
  obtain ⟨v1, M2, hc3, h⟩ := obind2_e h
  refine J_callV (g := mi_X4_told) (ci := 4) (pc := 8) [.int (M.1 55 20)] [] mv_X4_told w_1349 (k_X4_told (M.1 55 20) _ hc3) rfl (by decide) rfl rfl rfl ⟨⟨Nat.le_of_ble_eq_true rfl, Nat.le_of_ble_eq_true rfl⟩, Nat.le_of_ble_eq_true rfl, Nat.le_of_ble_eq_true rfl⟩ (Nat.le_of_ble_eq_true rfl) dX4_logged_8 (Jk_v rfl rfl fun hok4 => ?_)
  cases h
  exact J_ireturn dX4_logged_11 rfl rfl rfl rfl rfl
set_option maxHeartbeats 4000000 in
set_option maxRecDepth 100000 in
theorem k_X4_noSlide {E : En} (a1 : Int32) (M : Wd) {r : Int32} {M' : Wd} (h : F_X4_noSlide a1 M = some (r, M')) : Con E mi_X4_noSlide [.ref 53, .int a1] M (.inl (some (.int r))) M' := by
  unfold F_X4_noSlide at h
  refine Con.of (by decide) rfl (Nat.le_of_ble_eq_true rfl) (fun κ => ?_)
  show J κ E mi_X4_noSlide _ 0 0 [(0, .ref 53), (1, .int a1)] M 0 []
  refine J_aload_n (pc := 0) dX4_noSlide_0 rfl 0 rfl ?_
  refine J_iload_n (pc := 1) dX4_noSlide_1 rfl 1 rfl ?_
  refine J_LS [(0, .ref 53), (1, .int a1)] [.int a1, .ref 53] rfl rfl ?_
  refine J_i2l (pc := 2) dX4_noSlide_2 ?_
  refine J_lconst (v := (0 : Int64)) (pc := 3) dX4_noSlide_3 (by decide) ?_
  refine J_aload_n (pc := 4) dX4_noSlide_4 rfl 0 rfl ?_
  refine get_53_3 (pc := 5) w_1026 dX4_noSlide_5 ?_
  refine J_bipush (v := (20 : Int32)) (pc := 8) dX4_noSlide_8 (by decide) ?_
  refine J_iald (c := 55) (N := 82) (pc := 10) ja_55 (Nat.le_of_ble_eq_true rfl) (vpc rfl) dX4_noSlide_10 ?_
  refine J_topi (x := M.1 55 (Int32.toNatClampNeg 20)) (y := (M.1 55 20)) (Eq.symm (a := M.1 55 (Int32.toNatClampNeg 20)) (show M.1 55 20 = (M.1 55 20) from rfl)) ?_
  refine J_iconst (v := (1 : Int32)) (pc := 11) dX4_noSlide_11 (by decide) ?_
  refine J_isub (pc := 12) dX4_noSlide_12 ?_
  refine J_i2l (pc := 13) dX4_noSlide_13 ?_
  refine J_callS (g := mi_X4_in) (pc := 14) [.long a1.toInt64, .long (0 : Int64), .long ((M.1 55 20) - (1 : Int32)).toInt64] [.ref 53] ms_X4_in w_1104 (k_X4_in a1.toInt64 (0 : Int64) ((M.1 55 20) - (1 : Int32)).toInt64 _) rfl rfl ⟨⟨Nat.le_of_ble_eq_true rfl, Nat.le_of_ble_eq_true rfl⟩, Nat.le_of_ble_eq_true rfl, Nat.le_of_ble_eq_true rfl⟩ (Nat.le_of_ble_eq_true rfl) dX4_noSlide_14 (Jk_v rfl rfl fun hok1 => ?_)
  obtain ⟨v2, e3, h⟩ := bnd_e h
  have hb5 : isB v2 := by rw [e3]; repeat (first | exact Or.inl rfl | exact Or.inr rfl | assumption | exact okB_b (by assumption) | apply isB_ite)
  refine J_join [] M 25 [.int v2, .ref 53] ?_ (fun hJ => ?_)
  · obtain ⟨v6, M7, hc8, h⟩ := obind2_e h
    refine J_callV (g := mi_X4_refused) (ci := 4) (pc := 25) [.int v2] [] mv_X4_refused w_1120 (k_X4_refused v2 _ hc8) rfl (by decide) rfl rfl rfl ⟨⟨Nat.le_of_ble_eq_true rfl, Nat.le_of_ble_eq_true rfl⟩, Nat.le_of_ble_eq_true rfl, Nat.le_of_ble_eq_true rfl⟩ (Nat.le_of_ble_eq_true rfl) dX4_noSlide_25 (Jk_v rfl rfl fun hok9 => ?_)
    cases h
    exact J_zreturn dX4_noSlide_28 rfl (okB_b hok9) rfl rfl rfl rfl
  · refine J_if_eq (pc := 17) (tgt := 24) dX4_noSlide_17 (by decide) (fun c4 => ?_) (fun c4 => ?_)
    · refine J_iconst (v := (1 : Int32)) (pc := 24) dX4_noSlide_24 (by decide) ?_
      refine J_sub [] rfl ?_
      refine J_topi (y := v2) (by rw [e3, if_pos c4]) ?_
      exact hJ
    · refine J_iconst (v := (0 : Int32)) (pc := 20) dX4_noSlide_20 (by decide) ?_
      refine J_goto (pc := 21) (tgt := 25) dX4_noSlide_21 (by decide) ?_
      refine J_sub [] rfl ?_
      refine J_topi (y := v2) (by rw [e3, if_neg c4]) ?_
      exact hJ
set_option maxHeartbeats 4000000 in
set_option maxRecDepth 100000 in
theorem k_X4_carOfSlide {E : En} (a1 : Int32) (M : Wd) {r : Int32} {M' : Wd} (h : F_X4_carOfSlide a1 M = some (r, M')) : Con E mi_X4_carOfSlide [.ref 53, .int a1] M (.inl (some (.int r))) M' := by
  unfold F_X4_carOfSlide at h
  refine Con.of (by decide) rfl (Nat.le_of_ble_eq_true rfl) (fun κ => ?_)
  show J κ E mi_X4_carOfSlide _ 0 0 [(0, .ref 53), (1, .int a1)] M 0 []
  refine J_aload_n (pc := 0) dX4_carOfSlide_0 rfl 0 rfl ?_
  refine J_iload_n (pc := 1) dX4_carOfSlide_1 rfl 1 rfl ?_
  refine J_LS [(0, .ref 53), (1, .int a1)] [.int a1, .ref 53] rfl rfl ?_
  obtain ⟨v1, M2, hc3, h⟩ := obind2_e h
  refine J_callV (g := mi_X4_noSlide) (ci := 4) (pc := 2) [.int a1] [] mv_X4_noSlide w_1417 (k_X4_noSlide a1 _ hc3) rfl (by decide) rfl rfl rfl ⟨⟨Nat.le_of_ble_eq_true rfl, Nat.le_of_ble_eq_true rfl⟩, Nat.le_of_ble_eq_true rfl, Nat.le_of_ble_eq_true rfl⟩ (Nat.le_of_ble_eq_true rfl) dX4_carOfSlide_2 (Jk_v rfl rfl fun hok4 => ?_)
  refine J_if_eq (pc := 5) (tgt := 12) dX4_carOfSlide_5 (by decide) (fun c5 => ?_) (fun c5 => ?_)
  · replace h := ifp c5 h
    refine J_aload_n (pc := 12) dX4_carOfSlide_12 rfl 0 rfl ?_
    refine J_iload_n (pc := 13) dX4_carOfSlide_13 rfl 1 rfl ?_
    refine J_LS [(0, .ref 53), (1, .int a1)] [.int a1, .ref 53] rfl rfl ?_
    obtain ⟨v6, hc7, h⟩ := obind_e h
    refine J_callV (g := mi_X4_logCar) (ci := 4) (pc := 14) [.int a1] [] mv_X4_logCar w_1194 (k_X4_logCar a1 _ hc7) rfl (by decide) rfl rfl rfl ⟨⟨Nat.le_of_ble_eq_true rfl, Nat.le_of_ble_eq_true rfl⟩, Nat.le_of_ble_eq_true rfl, Nat.le_of_ble_eq_true rfl⟩ (Nat.le_of_ble_eq_true rfl) dX4_carOfSlide_14 (Jk_v rfl rfl fun hok8 => ?_)
    cases h
    exact J_ireturn dX4_carOfSlide_17 rfl rfl rfl rfl rfl
  · replace h := ifn c5 h
    refine J_iconst (v := (0 : Int32)) (pc := 8) dX4_carOfSlide_8 (by decide) ?_
    refine J_goto (pc := 9) (tgt := 17) dX4_carOfSlide_9 (by decide) ?_
    cases h
    exact J_ireturn dX4_carOfSlide_17 rfl rfl rfl rfl rfl
set_option maxHeartbeats 4000000 in
set_option maxRecDepth 100000 in
theorem k_X4_changeBySlide {E : En} (a1 : Int32) (M : Wd) {r : Int32} {M' : Wd} (h : F_X4_changeBySlide a1 M = some (r, M')) : Con E mi_X4_changeBySlide [.ref 53, .int a1] M (.inl (some (.int r))) M' := by
  unfold F_X4_changeBySlide at h
  refine Con.of (by decide) rfl (Nat.le_of_ble_eq_true rfl) (fun κ => ?_)
  show J κ E mi_X4_changeBySlide _ 0 0 [(0, .ref 53), (1, .int a1)] M 0 []
  refine J_aload_n (pc := 0) dX4_changeBySlide_0 rfl 0 rfl ?_
  refine J_iload_n (pc := 1) dX4_changeBySlide_1 rfl 1 rfl ?_
  refine J_LS [(0, .ref 53), (1, .int a1)] [.int a1, .ref 53] rfl rfl ?_
  obtain ⟨v1, M2, hc3, h⟩ := obind2_e h
  refine J_callV (g := mi_X4_noSlide) (ci := 4) (pc := 2) [.int a1] [] mv_X4_noSlide w_1417 (k_X4_noSlide a1 _ hc3) rfl (by decide) rfl rfl rfl ⟨⟨Nat.le_of_ble_eq_true rfl, Nat.le_of_ble_eq_true rfl⟩, Nat.le_of_ble_eq_true rfl, Nat.le_of_ble_eq_true rfl⟩ (Nat.le_of_ble_eq_true rfl) dX4_changeBySlide_2 (Jk_v rfl rfl fun hok4 => ?_)
  refine J_if_eq (pc := 5) (tgt := 12) dX4_changeBySlide_5 (by decide) (fun c5 => ?_) (fun c5 => ?_)
  · replace h := ifp c5 h
    refine J_aload_n (pc := 12) dX4_changeBySlide_12 rfl 0 rfl ?_
    refine J_iload_n (pc := 13) dX4_changeBySlide_13 rfl 1 rfl ?_
    refine J_LS [(0, .ref 53), (1, .int a1)] [.int a1, .ref 53] rfl rfl ?_
    obtain ⟨v6, hc7, h⟩ := obind_e h
    refine J_callV (g := mi_X4_logBy) (ci := 4) (pc := 14) [.int a1] [] mv_X4_logBy w_1198 (k_X4_logBy a1 _ hc7) rfl (by decide) rfl rfl rfl ⟨⟨Nat.le_of_ble_eq_true rfl, Nat.le_of_ble_eq_true rfl⟩, Nat.le_of_ble_eq_true rfl, Nat.le_of_ble_eq_true rfl⟩ (Nat.le_of_ble_eq_true rfl) dX4_changeBySlide_14 (Jk_v rfl rfl fun hok8 => ?_)
    cases h
    exact J_ireturn dX4_changeBySlide_17 rfl rfl rfl rfl rfl
  · replace h := ifn c5 h
    refine J_iconst (v := (0 : Int32)) (pc := 8) dX4_changeBySlide_8 (by decide) ?_
    refine J_goto (pc := 9) (tgt := 17) dX4_changeBySlide_9 (by decide) ?_
    cases h
    exact J_ireturn dX4_changeBySlide_17 rfl rfl rfl rfl rfl
set_option maxHeartbeats 4000000 in
set_option maxRecDepth 100000 in
theorem kL_X4_stepsBy_L4 {κ : Kx} {E : En} {Q : State → Prop} {ρ : Type} {r : ρ} (a1 : Int32) (M : Wd) (K59 : Int32 → Option ρ) (hK59 : ∀ (x2 : Int32), K59 x2 = some r → J κ E mi_X4_stepsBy Q 0 0 [(2, .int x2)] M 59 []) : ∀ (m : Nat) (x2 : Int32) (x3 : Int32), F_X4_stepsBy_L4 a1 M K59 m x2 x3 = some r → J κ E mi_X4_stepsBy Q 0 0 [(0, .ref 53), (1, .int a1), (2, .int x2), (3, .int x3)] M 4 [] := by
  intro m
  induction m with
  | zero => intro x2 x3 h; exact (nomatch (show (none : Option ρ) = some r from h))
  | succ m ih =>
    intro x2 x3 h
    unfold F_X4_stepsBy_L4 at h
    refine J_iload_n (pc := 4) dX4_stepsBy_4 rfl 3 rfl ?_
    refine J_aload_n (pc := 5) dX4_stepsBy_5 rfl 0 rfl ?_
    refine J_LS [(0, .ref 53), (1, .int a1), (2, .int x2), (3, .int x3)] [.ref 53, .int x3] rfl rfl ?_
    refine get_53_3 (pc := 6) w_1026 dX4_stepsBy_6 ?_
    refine J_bipush (v := (20 : Int32)) (pc := 9) dX4_stepsBy_9 (by decide) ?_
    refine J_iald (c := 55) (N := 82) (pc := 11) ja_55 (Nat.le_of_ble_eq_true rfl) (vpc rfl) dX4_stepsBy_11 ?_
    refine J_topi (x := M.1 55 (Int32.toNatClampNeg 20)) (y := (M.1 55 20)) (Eq.symm (a := M.1 55 (Int32.toNatClampNeg 20)) (show M.1 55 20 = (M.1 55 20) from rfl)) ?_
    refine J_icmp_ge (pc := 12) (tgt := 59) dX4_stepsBy_12 (by decide) (fun c1 => ?_) (fun c1 => ?_)
    · replace h := ifp c1 h
      refine J_sub [2] rfl ?_
      exact hK59 _ h
    · replace h := ifn c1 h
      refine J_iload_n (pc := 15) dX4_stepsBy_15 rfl 2 rfl ?_
      refine J_aload_n (pc := 16) dX4_stepsBy_16 rfl 0 rfl ?_
      refine J_LS [(0, .ref 53), (1, .int a1), (2, .int x2), (3, .int x3)] [.ref 53, .int x2] rfl rfl ?_
      refine J_iload_n (pc := 17) dX4_stepsBy_17 rfl 3 rfl ?_
      obtain ⟨v2, hc3, h⟩ := obind_e h
      refine J_callV (g := mi_X4_logCar) (ci := 4) (pc := 18) [.int x3] [.int x2] mv_X4_logCar w_1194 (k_X4_logCar x3 _ hc3) rfl (by decide) rfl rfl rfl ⟨⟨Nat.le_of_ble_eq_true rfl, Nat.le_of_ble_eq_true rfl⟩, Nat.le_of_ble_eq_true rfl, Nat.le_of_ble_eq_true rfl⟩ (Nat.le_of_ble_eq_true rfl) dX4_stepsBy_18 (Jk_v rfl rfl fun hok4 => ?_)
      refine J_iload_n (pc := 21) dX4_stepsBy_21 rfl 1 rfl ?_
      refine J_LS [(0, .ref 53), (1, .int a1), (2, .int x2), (3, .int x3)] [.int a1, .int v2, .int x2] rfl rfl ?_
      obtain ⟨v5, hv17, h⟩ := obind_e h
      refine J_join [(0, .ref 53), (1, .int a1), (3, .int x3)] M 51 [.int v5, .int x2] ?_ (fun hJ => ?_)
      · refine J_iadd (pc := 51) dX4_stepsBy_51 ?_
        obtain ⟨v18, e19, h⟩ := bnd_e h
        refine J_topi e19 ?_
        refine J_istore_n (pc := 52) dX4_stepsBy_52 rfl (Nat.le_of_ble_eq_true rfl) [1, 2, 0, 3] rfl ?_
        obtain ⟨v20, e21, h⟩ := bnd_e h
        refine J_iinc (v := v20) (pc := 53) dX4_stepsBy_53 3 rfl (by rw [e21]; rfl) (Nat.le_of_ble_eq_true rfl) [1, 2, 3, 0] rfl ?_
        refine J_goto (pc := 56) (tgt := 4) dX4_stepsBy_56 (by decide) ?_
        exact ih _ _ h
      · replace h := hv17
        refine J_icmp_eq (pc := 22) (tgt := 29) dX4_stepsBy_22 (by decide) (fun c6 => ?_) (fun c6 => ?_)
        · replace h := ifp c6 h
          refine J_aload_n (pc := 29) dX4_stepsBy_29 rfl 0 rfl ?_
          refine J_iload_n (pc := 30) dX4_stepsBy_30 rfl 3 rfl ?_
          refine J_LS [(0, .ref 53), (1, .int a1), (2, .int x2), (3, .int x3)] [.int x3, .ref 53, .int x2] rfl rfl ?_
          obtain ⟨v7, hc8, h⟩ := obind_e h
          refine J_callV (g := mi_X4_logBy) (ci := 4) (pc := 31) [.int x3] [.int x2] mv_X4_logBy w_1198 (k_X4_logBy x3 _ hc8) rfl (by decide) rfl rfl rfl ⟨⟨Nat.le_of_ble_eq_true rfl, Nat.le_of_ble_eq_true rfl⟩, Nat.le_of_ble_eq_true rfl, Nat.le_of_ble_eq_true rfl⟩ (Nat.le_of_ble_eq_true rfl) dX4_stepsBy_31 (Jk_v rfl rfl fun hok9 => ?_)
          refine J_if_ge (pc := 34) (tgt := 46) dX4_stepsBy_34 (by decide) (fun c10 => ?_) (fun c10 => ?_)
          · replace h := ifp c10 h
            refine J_aload_n (pc := 46) dX4_stepsBy_46 rfl 0 rfl ?_
            refine J_iload_n (pc := 47) dX4_stepsBy_47 rfl 3 rfl ?_
            refine J_LS [(0, .ref 53), (1, .int a1), (2, .int x2), (3, .int x3)] [.int x3, .ref 53, .int x2] rfl rfl ?_
            obtain ⟨v11, hc12, h⟩ := obind_e h
            refine J_callV (g := mi_X4_logBy) (ci := 4) (pc := 48) [.int x3] [.int x2] mv_X4_logBy w_1198 (k_X4_logBy x3 _ hc12) rfl (by decide) rfl rfl rfl ⟨⟨Nat.le_of_ble_eq_true rfl, Nat.le_of_ble_eq_true rfl⟩, Nat.le_of_ble_eq_true rfl, Nat.le_of_ble_eq_true rfl⟩ (Nat.le_of_ble_eq_true rfl) dX4_stepsBy_48 (Jk_v rfl rfl fun hok13 => ?_)
            cases h
            refine J_sub [0, 1, 3] rfl ?_
            exact hJ
          · replace h := ifn c10 h
            refine J_aload_n (pc := 37) dX4_stepsBy_37 rfl 0 rfl ?_
            refine J_iload_n (pc := 38) dX4_stepsBy_38 rfl 3 rfl ?_
            refine J_LS [(0, .ref 53), (1, .int a1), (2, .int x2), (3, .int x3)] [.int x3, .ref 53, .int x2] rfl rfl ?_
            obtain ⟨v14, hc15, h⟩ := obind_e h
            refine J_callV (g := mi_X4_logBy) (ci := 4) (pc := 39) [.int x3] [.int x2] mv_X4_logBy w_1198 (k_X4_logBy x3 _ hc15) rfl (by decide) rfl rfl rfl ⟨⟨Nat.le_of_ble_eq_true rfl, Nat.le_of_ble_eq_true rfl⟩, Nat.le_of_ble_eq_true rfl, Nat.le_of_ble_eq_true rfl⟩ (Nat.le_of_ble_eq_true rfl) dX4_stepsBy_39 (Jk_v rfl rfl fun hok16 => ?_)
            refine J_ineg (pc := 42) dX4_stepsBy_42 ?_
            refine J_goto (pc := 43) (tgt := 51) dX4_stepsBy_43 (by decide) ?_
            cases h
            refine J_sub [0, 1, 3] rfl ?_
            exact hJ
        · replace h := ifn c6 h
          refine J_iconst (v := (0 : Int32)) (pc := 25) dX4_stepsBy_25 (by decide) ?_
          refine J_goto (pc := 26) (tgt := 51) dX4_stepsBy_26 (by decide) ?_
          cases h
          refine J_sub [0, 1, 3] rfl ?_
          exact hJ
set_option maxHeartbeats 4000000 in
set_option maxRecDepth 100000 in
theorem k_X4_stepsBy {E : En} (a1 : Int32) (M : Wd) {r : Int32} (h : F_X4_stepsBy a1 M = some r) : Con E mi_X4_stepsBy [.ref 53, .int a1] M (.inl (some (.int r))) M := by
  unfold F_X4_stepsBy at h
  refine Con.of (by decide) rfl (Nat.le_of_ble_eq_true rfl) (fun κ => ?_)
  show J κ E mi_X4_stepsBy _ 0 0 [(0, .ref 53), (1, .int a1)] M 0 []
  refine J_iconst (v := (0 : Int32)) (pc := 0) dX4_stepsBy_0 (by decide) ?_
  refine J_istore_n (pc := 1) dX4_stepsBy_1 rfl (Nat.le_of_ble_eq_true rfl) [1, 2, 0] rfl ?_
  refine J_iconst (v := (0 : Int32)) (pc := 2) dX4_stepsBy_2 (by decide) ?_
  refine J_istore_n (pc := 3) dX4_stepsBy_3 rfl (Nat.le_of_ble_eq_true rfl) [1, 2, 3, 0] rfl ?_
  refine J_LS [(0, .ref 53), (1, .int a1), (2, .int (0 : Int32)), (3, .int (0 : Int32))] [] rfl rfl ?_
  refine kL_X4_stepsBy_L4 _ _ _ (fun v22 h => ?_) fuelN _ _ h
  refine J_iload_n (pc := 59) dX4_stepsBy_59 rfl 0 rfl ?_
  cases h
  exact J_ireturn dX4_stepsBy_60 rfl rfl rfl rfl rfl
set_option maxHeartbeats 4000000 in
set_option maxRecDepth 100000 in
theorem k_X4_stepsOf {E : En} (a1 : Int32) (M : Wd) {r : Int32} {M' : Wd} (h : F_X4_stepsOf a1 M = some (r, M')) : Con E mi_X4_stepsOf [.ref 53, .int a1] M (.inl (some (.int r))) M' := by
  unfold F_X4_stepsOf at h
  refine Con.of (by decide) rfl (Nat.le_of_ble_eq_true rfl) (fun κ => ?_)
  show J κ E mi_X4_stepsOf _ 0 0 [(0, .ref 53), (1, .int a1)] M 0 []
  refine J_aload_n (pc := 0) dX4_stepsOf_0 rfl 0 rfl ?_
  refine J_iload_n (pc := 1) dX4_stepsOf_1 rfl 1 rfl ?_
  refine J_LS [(0, .ref 53), (1, .int a1)] [.int a1, .ref 53] rfl rfl ?_
  obtain ⟨v1, M2, hc3, h⟩ := obind2_e h
  refine J_callV (g := mi_X4_noCar) (ci := 4) (pc := 2) [.int a1] [] mv_X4_noCar w_1361 (k_X4_noCar a1 _ hc3) rfl (by decide) rfl rfl rfl ⟨⟨Nat.le_of_ble_eq_true rfl, Nat.le_of_ble_eq_true rfl⟩, Nat.le_of_ble_eq_true rfl, Nat.le_of_ble_eq_true rfl⟩ (Nat.le_of_ble_eq_true rfl) dX4_stepsOf_2 (Jk_v rfl rfl fun hok4 => ?_)
  refine J_if_eq (pc := 5) (tgt := 12) dX4_stepsOf_5 (by decide) (fun c5 => ?_) (fun c5 => ?_)
  · replace h := ifp c5 h
    refine J_aload_n (pc := 12) dX4_stepsOf_12 rfl 0 rfl ?_
    refine J_iload_n (pc := 13) dX4_stepsOf_13 rfl 1 rfl ?_
    refine J_LS [(0, .ref 53), (1, .int a1)] [.int a1, .ref 53] rfl rfl ?_
    obtain ⟨v6, hc7, h⟩ := obind_e h
    refine J_callV (g := mi_X4_stepsBy) (ci := 4) (pc := 14) [.int a1] [] mv_X4_stepsBy w_1429 (k_X4_stepsBy a1 _ hc7) rfl (by decide) rfl rfl rfl ⟨⟨Nat.le_of_ble_eq_true rfl, Nat.le_of_ble_eq_true rfl⟩, Nat.le_of_ble_eq_true rfl, Nat.le_of_ble_eq_true rfl⟩ (Nat.le_of_ble_eq_true rfl) dX4_stepsOf_14 (Jk_v rfl rfl fun hok8 => ?_)
    cases h
    exact J_ireturn dX4_stepsOf_17 rfl rfl rfl rfl rfl
  · replace h := ifn c5 h
    refine J_iconst (v := (0 : Int32)) (pc := 8) dX4_stepsOf_8 (by decide) ?_
    refine J_goto (pc := 9) (tgt := 17) dX4_stepsOf_9 (by decide) ?_
    cases h
    exact J_ireturn dX4_stepsOf_17 rfl rfl rfl rfl rfl
set_option maxHeartbeats 4000000 in
set_option maxRecDepth 100000 in
theorem kL_X4_burnt_L4 {κ : Kx} {E : En} {Q : State → Prop} {ρ : Type} {r : ρ} (M : Wd) (K38 : Int32 → Option ρ) (hK38 : ∀ (x1 : Int32), K38 x1 = some r → J κ E mi_X4_burnt Q 0 0 [(1, .int x1)] M 38 []) : ∀ (m : Nat) (x1 : Int32) (x2 : Int32), F_X4_burnt_L4 M K38 m x1 x2 = some r → J κ E mi_X4_burnt Q 0 0 [(0, .ref 53), (1, .int x1), (2, .int x2)] M 4 [] := by
  intro m
  induction m with
  | zero => intro x1 x2 h; exact (nomatch (show (none : Option ρ) = some r from h))
  | succ m ih =>
    intro x1 x2 h
    unfold F_X4_burnt_L4 at h
    refine J_iload_n (pc := 4) dX4_burnt_4 rfl 2 rfl ?_
    refine J_aload_n (pc := 5) dX4_burnt_5 rfl 0 rfl ?_
    refine J_LS [(0, .ref 53), (1, .int x1), (2, .int x2)] [.ref 53, .int x2] rfl rfl ?_
    refine get_53_3 (pc := 6) w_1026 dX4_burnt_6 ?_
    refine J_iconst (v := (0 : Int32)) (pc := 9) dX4_burnt_9 (by decide) ?_
    refine J_iald (c := 55) (N := 82) (pc := 10) ja_55 (Nat.le_of_ble_eq_true rfl) (vpc rfl) dX4_burnt_10 ?_
    refine J_topi (x := M.1 55 (Int32.toNatClampNeg 0)) (y := (M.1 55 0)) (Eq.symm (a := M.1 55 (Int32.toNatClampNeg 0)) (show M.1 55 0 = (M.1 55 0) from rfl)) ?_
    refine J_icmp_ge (pc := 11) (tgt := 38) dX4_burnt_11 (by decide) (fun c1 => ?_) (fun c1 => ?_)
    · replace h := ifp c1 h
      refine J_sub [1] rfl ?_
      exact hK38 _ h
    · replace h := ifn c1 h
      refine J_iload_n (pc := 14) dX4_burnt_14 rfl 1 rfl ?_
      refine J_aload_n (pc := 15) dX4_burnt_15 rfl 0 rfl ?_
      refine J_LS [(0, .ref 53), (1, .int x1), (2, .int x2)] [.ref 53, .int x1] rfl rfl ?_
      refine get_53_3 (pc := 16) w_1026 dX4_burnt_16 ?_
      refine J_bipush (v := (13 : Int32)) (pc := 19) dX4_burnt_19 (by decide) ?_
      refine J_iload_n (pc := 21) dX4_burnt_21 rfl 2 rfl ?_
      refine J_iadd (pc := 22) dX4_burnt_22 ?_
      obtain ⟨v2, e3, hk4, h⟩ := ldi_e h
      refine J_iald (c := 55) (N := 82) (pc := 23) ja_55 (Nat.le_of_ble_eq_true rfl) hk4 dX4_burnt_23 ?_
      refine J_topi e3 ?_
      refine J_aload_n (pc := 24) dX4_burnt_24 rfl 0 rfl ?_
      refine J_LS [(0, .ref 53), (1, .int x1), (2, .int x2)] [.ref 53, .int v2, .int x1] rfl rfl ?_
      refine J_iload_n (pc := 25) dX4_burnt_25 rfl 2 rfl ?_
      obtain ⟨v5, hc6, h⟩ := obind_e h
      refine J_callV (g := mi_X4_stepsBy) (ci := 4) (pc := 26) [.int x2] [.int v2, .int x1] mv_X4_stepsBy w_1429 (k_X4_stepsBy x2 _ hc6) rfl (by decide) rfl rfl rfl ⟨⟨Nat.le_of_ble_eq_true rfl, Nat.le_of_ble_eq_true rfl⟩, Nat.le_of_ble_eq_true rfl, Nat.le_of_ble_eq_true rfl⟩ (Nat.le_of_ble_eq_true rfl) dX4_burnt_26 (Jk_v rfl rfl fun hok7 => ?_)
      refine J_imul (pc := 29) dX4_burnt_29 ?_
      refine J_iadd (pc := 30) dX4_burnt_30 ?_
      obtain ⟨v8, e9, h⟩ := bnd_e h
      refine J_topi e9 ?_
      refine J_istore_n (pc := 31) dX4_burnt_31 rfl (Nat.le_of_ble_eq_true rfl) [1, 0, 2] rfl ?_
      refine J_LS [(0, .ref 53), (1, .int v8), (2, .int x2)] [] rfl rfl ?_
      obtain ⟨v10, e11, h⟩ := bnd_e h
      refine J_iinc (v := v10) (pc := 32) dX4_burnt_32 2 rfl (by rw [e11]; rfl) (Nat.le_of_ble_eq_true rfl) [1, 2, 0] rfl ?_
      refine J_goto (pc := 35) (tgt := 4) dX4_burnt_35 (by decide) ?_
      exact ih _ _ h
set_option maxHeartbeats 4000000 in
set_option maxRecDepth 100000 in
theorem k_X4_burnt {E : En} (M : Wd) {r : Int32} (h : F_X4_burnt M = some r) : Con E mi_X4_burnt [.ref 53] M (.inl (some (.int r))) M := by
  unfold F_X4_burnt at h
  refine Con.of (by decide) rfl (Nat.le_of_ble_eq_true rfl) (fun κ => ?_)
  show J κ E mi_X4_burnt _ 0 0 [(0, .ref 53)] M 0 []
  refine J_iconst (v := (0 : Int32)) (pc := 0) dX4_burnt_0 (by decide) ?_
  refine J_istore_n (pc := 1) dX4_burnt_1 rfl (Nat.le_of_ble_eq_true rfl) [1, 0] rfl ?_
  refine J_iconst (v := (0 : Int32)) (pc := 2) dX4_burnt_2 (by decide) ?_
  refine J_istore_n (pc := 3) dX4_burnt_3 rfl (Nat.le_of_ble_eq_true rfl) [1, 2, 0] rfl ?_
  refine J_LS [(0, .ref 53), (1, .int (0 : Int32)), (2, .int (0 : Int32))] [] rfl rfl ?_
  refine kL_X4_burnt_L4 _ _ (fun v12 h => ?_) fuelN _ _ h
  refine J_iload_n (pc := 38) dX4_burnt_38 rfl 0 rfl ?_
  cases h
  exact J_ireturn dX4_burnt_39 rfl rfl rfl rfl rfl
set_option maxHeartbeats 4000000 in
set_option maxRecDepth 100000 in
theorem k_X4_fuel {E : En} (M : Wd) {r : Int32} {M' : Wd} (h : F_X4_fuel M = some (r, M')) : Con E mi_X4_fuel [.ref 53] M (.inl (some (.int r))) M' := by
  unfold F_X4_fuel at h
  refine Con.of (by decide) rfl (Nat.le_of_ble_eq_true rfl) (fun κ => ?_)
  show J κ E mi_X4_fuel _ 0 0 [(0, .ref 53)] M 0 []
  refine J_aload_n (pc := 0) dX4_fuel_0 rfl 0 rfl ?_
  refine J_aload_n (pc := 1) dX4_fuel_1 rfl 0 rfl ?_
  refine J_LS [(0, .ref 53)] [.ref 53, .ref 53] rfl rfl ?_
  obtain ⟨v1, hc2, h⟩ := obind_e h
  refine J_callV (g := mi_X4_burnt) (ci := 4) (pc := 2) [] [.ref 53] mv_X4_burnt w_1437 (k_X4_burnt _ hc2) rfl (by decide) rfl rfl rfl ⟨⟨Nat.le_of_ble_eq_true rfl, Nat.le_of_ble_eq_true rfl⟩, Nat.le_of_ble_eq_true rfl, Nat.le_of_ble_eq_true rfl⟩ (Nat.le_of_ble_eq_true rfl) dX4_fuel_2 (Jk_v rfl rfl fun hok3 => ?_)
  obtain ⟨v4, M5, hc6, h⟩ := obind2_e h
  refine J_callV (g := mi_X4_told) (ci := 4) (pc := 5) [.int v1] [] mv_X4_told w_1349 (k_X4_told v1 _ hc6) rfl (by decide) rfl rfl rfl ⟨⟨Nat.le_of_ble_eq_true rfl, Nat.le_of_ble_eq_true rfl⟩, Nat.le_of_ble_eq_true rfl, Nat.le_of_ble_eq_true rfl⟩ (Nat.le_of_ble_eq_true rfl) dX4_fuel_5 (Jk_v rfl rfl fun hok7 => ?_)
  cases h
  exact J_ireturn dX4_fuel_8 rfl rfl rfl rfl rfl
set_option maxHeartbeats 4000000 in
set_option maxRecDepth 100000 in
theorem k_X4_fuelByCars {E : En} (M : Wd) {r : Int32} {M' : Wd} (h : F_X4_fuelByCars M = some (r, M')) : Con E mi_X4_fuelByCars [.ref 53] M (.inl (some (.int r))) M' := by
  unfold F_X4_fuelByCars at h
  refine Con.of (by decide) rfl (Nat.le_of_ble_eq_true rfl) (fun κ => ?_)
  show J κ E mi_X4_fuelByCars _ 0 0 [(0, .ref 53)] M 0 []
  refine J_aload_n (pc := 0) dX4_fuelByCars_0 rfl 0 rfl ?_
  refine J_aload_n (pc := 1) dX4_fuelByCars_1 rfl 0 rfl ?_
  refine J_LS [(0, .ref 53)] [.ref 53, .ref 53] rfl rfl ?_
  obtain ⟨v1, hc2, h⟩ := obind_e h
  refine J_callV (g := mi_X4_burnt) (ci := 4) (pc := 2) [] [.ref 53] mv_X4_burnt w_1437 (k_X4_burnt _ hc2) rfl (by decide) rfl rfl rfl ⟨⟨Nat.le_of_ble_eq_true rfl, Nat.le_of_ble_eq_true rfl⟩, Nat.le_of_ble_eq_true rfl, Nat.le_of_ble_eq_true rfl⟩ (Nat.le_of_ble_eq_true rfl) dX4_fuelByCars_2 (Jk_v rfl rfl fun hok3 => ?_)
  obtain ⟨v4, M5, hc6, h⟩ := obind2_e h
  refine J_callV (g := mi_X4_told) (ci := 4) (pc := 5) [.int v1] [] mv_X4_told w_1349 (k_X4_told v1 _ hc6) rfl (by decide) rfl rfl rfl ⟨⟨Nat.le_of_ble_eq_true rfl, Nat.le_of_ble_eq_true rfl⟩, Nat.le_of_ble_eq_true rfl, Nat.le_of_ble_eq_true rfl⟩ (Nat.le_of_ble_eq_true rfl) dX4_fuelByCars_5 (Jk_v rfl rfl fun hok7 => ?_)
  cases h
  exact J_ireturn dX4_fuelByCars_8 rfl rfl rfl rfl rfl
set_option maxHeartbeats 4000000 in
set_option maxRecDepth 100000 in
theorem k_X4_fewestSlides {E : En} (M : Wd) {r : Int32} {M' : Wd} (h : F_X4_fewestSlides M = some (r, M')) : Con E mi_X4_fewestSlides [.ref 53] M (.inl (some (.int r))) M' := by
  unfold F_X4_fewestSlides at h
  refine Con.of (by decide) rfl (Nat.le_of_ble_eq_true rfl) (fun κ => ?_)
  show J κ E mi_X4_fewestSlides _ 0 0 [(0, .ref 53)] M 0 []
  refine J_aload_n (pc := 0) dX4_fewestSlides_0 rfl 0 rfl ?_
  refine J_aload_n (pc := 1) dX4_fewestSlides_1 rfl 0 rfl ?_
  refine J_LS [(0, .ref 53)] [.ref 53, .ref 53] rfl rfl ?_
  refine J_iconst (v := (3 : Int32)) (pc := 2) dX4_fewestSlides_2 (by decide) ?_
  obtain ⟨v1, M2, hc3, h⟩ := obind2_e h
  refine J_callV (g := mi_X4_fewest) (ci := 4) (pc := 3) [.int (3 : Int32)] [.ref 53] mv_X4_fewest w_1449 (k_X4_fewest (3 : Int32) _ hc3) rfl (by decide) rfl rfl rfl ⟨⟨Nat.le_of_ble_eq_true rfl, Nat.le_of_ble_eq_true rfl⟩, Nat.le_of_ble_eq_true rfl, Nat.le_of_ble_eq_true rfl⟩ (Nat.le_of_ble_eq_true rfl) dX4_fewestSlides_3 (Jk_v rfl rfl fun hok4 => ?_)
  obtain ⟨v5, M6, hc7, h⟩ := obind2_e h
  refine J_callV (g := mi_X4_told) (ci := 4) (pc := 6) [.int v1] [] mv_X4_told w_1349 (k_X4_told v1 _ hc7) rfl (by decide) rfl rfl rfl ⟨⟨Nat.le_of_ble_eq_true rfl, Nat.le_of_ble_eq_true rfl⟩, Nat.le_of_ble_eq_true rfl, Nat.le_of_ble_eq_true rfl⟩ (Nat.le_of_ble_eq_true rfl) dX4_fewestSlides_6 (Jk_v rfl rfl fun hok8 => ?_)
  cases h
  exact J_ireturn dX4_fewestSlides_9 rfl rfl rfl rfl rfl
set_option maxHeartbeats 4000000 in
set_option maxRecDepth 100000 in
theorem k_X4_fewestSlidesFromEnds {E : En} (M : Wd) {r : Int32} {M' : Wd} (h : F_X4_fewestSlidesFromEnds M = some (r, M')) : Con E mi_X4_fewestSlidesFromEnds [.ref 53] M (.inl (some (.int r))) M' := by
  unfold F_X4_fewestSlidesFromEnds at h
  refine Con.of (by decide) rfl (Nat.le_of_ble_eq_true rfl) (fun κ => ?_)
  show J κ E mi_X4_fewestSlidesFromEnds _ 0 0 [(0, .ref 53)] M 0 []
  refine J_aload_n (pc := 0) dX4_fewestSlidesFromEnds_0 rfl 0 rfl ?_
  refine J_aload_n (pc := 1) dX4_fewestSlidesFromEnds_1 rfl 0 rfl ?_
  refine J_LS [(0, .ref 53)] [.ref 53, .ref 53] rfl rfl ?_
  obtain ⟨v1, M2, hc3, h⟩ := obind2_e h
  refine J_callV (g := mi_X4_fewestEnds) (ci := 4) (pc := 2) [] [.ref 53] mv_X4_fewestEnds w_1465 (k_X4_fewestEnds _ hc3) rfl (by decide) rfl rfl rfl ⟨⟨Nat.le_of_ble_eq_true rfl, Nat.le_of_ble_eq_true rfl⟩, Nat.le_of_ble_eq_true rfl, Nat.le_of_ble_eq_true rfl⟩ (Nat.le_of_ble_eq_true rfl) dX4_fewestSlidesFromEnds_2 (Jk_v rfl rfl fun hok4 => ?_)
  obtain ⟨v5, M6, hc7, h⟩ := obind2_e h
  refine J_callV (g := mi_X4_told) (ci := 4) (pc := 5) [.int v1] [] mv_X4_told w_1349 (k_X4_told v1 _ hc7) rfl (by decide) rfl rfl rfl ⟨⟨Nat.le_of_ble_eq_true rfl, Nat.le_of_ble_eq_true rfl⟩, Nat.le_of_ble_eq_true rfl, Nat.le_of_ble_eq_true rfl⟩ (Nat.le_of_ble_eq_true rfl) dX4_fewestSlidesFromEnds_5 (Jk_v rfl rfl fun hok8 => ?_)
  cases h
  exact J_ireturn dX4_fewestSlidesFromEnds_8 rfl rfl rfl rfl rfl
set_option maxHeartbeats 4000000 in
set_option maxRecDepth 100000 in
theorem k_X4_fewestSteps {E : En} (M : Wd) {r : Int32} {M' : Wd} (h : F_X4_fewestSteps M = some (r, M')) : Con E mi_X4_fewestSteps [.ref 53] M (.inl (some (.int r))) M' := by
  unfold F_X4_fewestSteps at h
  refine Con.of (by decide) rfl (Nat.le_of_ble_eq_true rfl) (fun κ => ?_)
  show J κ E mi_X4_fewestSteps _ 0 0 [(0, .ref 53)] M 0 []
  refine J_aload_n (pc := 0) dX4_fewestSteps_0 rfl 0 rfl ?_
  refine J_aload_n (pc := 1) dX4_fewestSteps_1 rfl 0 rfl ?_
  refine J_LS [(0, .ref 53)] [.ref 53, .ref 53] rfl rfl ?_
  refine J_iconst (v := (1 : Int32)) (pc := 2) dX4_fewestSteps_2 (by decide) ?_
  obtain ⟨v1, M2, hc3, h⟩ := obind2_e h
  refine J_callV (g := mi_X4_fewest) (ci := 4) (pc := 3) [.int (1 : Int32)] [.ref 53] mv_X4_fewest w_1449 (k_X4_fewest (1 : Int32) _ hc3) rfl (by decide) rfl rfl rfl ⟨⟨Nat.le_of_ble_eq_true rfl, Nat.le_of_ble_eq_true rfl⟩, Nat.le_of_ble_eq_true rfl, Nat.le_of_ble_eq_true rfl⟩ (Nat.le_of_ble_eq_true rfl) dX4_fewestSteps_3 (Jk_v rfl rfl fun hok4 => ?_)
  obtain ⟨v5, M6, hc7, h⟩ := obind2_e h
  refine J_callV (g := mi_X4_told) (ci := 4) (pc := 6) [.int v1] [] mv_X4_told w_1349 (k_X4_told v1 _ hc7) rfl (by decide) rfl rfl rfl ⟨⟨Nat.le_of_ble_eq_true rfl, Nat.le_of_ble_eq_true rfl⟩, Nat.le_of_ble_eq_true rfl, Nat.le_of_ble_eq_true rfl⟩ (Nat.le_of_ble_eq_true rfl) dX4_fewestSteps_6 (Jk_v rfl rfl fun hok8 => ?_)
  cases h
  exact J_ireturn dX4_fewestSteps_9 rfl rfl rfl rfl rfl
set_option maxHeartbeats 4000000 in
set_option maxRecDepth 100000 in
theorem k_X4_leastFuel {E : En} (M : Wd) {r : Int32} {M' : Wd} (h : F_X4_leastFuel M = some (r, M')) : Con E mi_X4_leastFuel [.ref 53] M (.inl (some (.int r))) M' := by
  unfold F_X4_leastFuel at h
  refine Con.of (by decide) rfl (Nat.le_of_ble_eq_true rfl) (fun κ => ?_)
  show J κ E mi_X4_leastFuel _ 0 0 [(0, .ref 53)] M 0 []
  refine J_aload_n (pc := 0) dX4_leastFuel_0 rfl 0 rfl ?_
  refine J_aload_n (pc := 1) dX4_leastFuel_1 rfl 0 rfl ?_
  refine J_LS [(0, .ref 53)] [.ref 53, .ref 53] rfl rfl ?_
  obtain ⟨v1, M2, hc3, h⟩ := obind2_e h
  refine J_callV (g := mi_X4_cheapest) (ci := 4) (pc := 2) [] [.ref 53] mv_X4_cheapest w_1477 (k_X4_cheapest _ hc3) rfl (by decide) rfl rfl rfl ⟨⟨Nat.le_of_ble_eq_true rfl, Nat.le_of_ble_eq_true rfl⟩, Nat.le_of_ble_eq_true rfl, Nat.le_of_ble_eq_true rfl⟩ (Nat.le_of_ble_eq_true rfl) dX4_leastFuel_2 (Jk_v rfl rfl fun hok4 => ?_)
  obtain ⟨v5, M6, hc7, h⟩ := obind2_e h
  refine J_callV (g := mi_X4_told) (ci := 4) (pc := 5) [.int v1] [] mv_X4_told w_1349 (k_X4_told v1 _ hc7) rfl (by decide) rfl rfl rfl ⟨⟨Nat.le_of_ble_eq_true rfl, Nat.le_of_ble_eq_true rfl⟩, Nat.le_of_ble_eq_true rfl, Nat.le_of_ble_eq_true rfl⟩ (Nat.le_of_ble_eq_true rfl) dX4_leastFuel_5 (Jk_v rfl rfl fun hok8 => ?_)
  cases h
  exact J_ireturn dX4_leastFuel_8 rfl rfl rfl rfl rfl
set_option maxHeartbeats 4000000 in
set_option maxRecDepth 100000 in
theorem k_X4_leastFuelByRounds {E : En} (M : Wd) {r : Int32} {M' : Wd} (h : F_X4_leastFuelByRounds M = some (r, M')) : Con E mi_X4_leastFuelByRounds [.ref 53] M (.inl (some (.int r))) M' := by
  unfold F_X4_leastFuelByRounds at h
  refine Con.of (by decide) rfl (Nat.le_of_ble_eq_true rfl) (fun κ => ?_)
  show J κ E mi_X4_leastFuelByRounds _ 0 0 [(0, .ref 53)] M 0 []
  refine J_aload_n (pc := 0) dX4_leastFuelByRounds_0 rfl 0 rfl ?_
  refine J_aload_n (pc := 1) dX4_leastFuelByRounds_1 rfl 0 rfl ?_
  refine J_LS [(0, .ref 53)] [.ref 53, .ref 53] rfl rfl ?_
  obtain ⟨v1, M2, hc3, h⟩ := obind2_e h
  refine J_callV (g := mi_X4_cheapest) (ci := 4) (pc := 2) [] [.ref 53] mv_X4_cheapest w_1477 (k_X4_cheapest _ hc3) rfl (by decide) rfl rfl rfl ⟨⟨Nat.le_of_ble_eq_true rfl, Nat.le_of_ble_eq_true rfl⟩, Nat.le_of_ble_eq_true rfl, Nat.le_of_ble_eq_true rfl⟩ (Nat.le_of_ble_eq_true rfl) dX4_leastFuelByRounds_2 (Jk_v rfl rfl fun hok4 => ?_)
  obtain ⟨v5, M6, hc7, h⟩ := obind2_e h
  refine J_callV (g := mi_X4_told) (ci := 4) (pc := 5) [.int v1] [] mv_X4_told w_1349 (k_X4_told v1 _ hc7) rfl (by decide) rfl rfl rfl ⟨⟨Nat.le_of_ble_eq_true rfl, Nat.le_of_ble_eq_true rfl⟩, Nat.le_of_ble_eq_true rfl, Nat.le_of_ble_eq_true rfl⟩ (Nat.le_of_ble_eq_true rfl) dX4_leastFuelByRounds_5 (Jk_v rfl rfl fun hok8 => ?_)
  cases h
  exact J_ireturn dX4_leastFuelByRounds_8 rfl rfl rfl rfl rfl
set_option maxHeartbeats 4000000 in
set_option maxRecDepth 100000 in
theorem k_X4_nextSlide {E : En} (M : Wd) {r : Int32} {M' : Wd} (h : F_X4_nextSlide M = some (r, M')) : Con E mi_X4_nextSlide [.ref 53] M (.inl (some (.int r))) M' := by
  unfold F_X4_nextSlide at h
  refine Con.of (by decide) rfl (Nat.le_of_ble_eq_true rfl) (fun κ => ?_)
  show J κ E mi_X4_nextSlide _ 0 0 [(0, .ref 53)] M 0 []
  refine J_aload_n (pc := 0) dX4_nextSlide_0 rfl 0 rfl ?_
  obtain ⟨v1, M2, hc3, h⟩ := obind2_e h
  refine J_callV (g := mi_X4_planned) (ci := 4) (pc := 1) [] [] mv_X4_planned w_1214 (k_X4_planned _ hc3) rfl (by decide) rfl rfl rfl ⟨⟨Nat.le_of_ble_eq_true rfl, Nat.le_of_ble_eq_true rfl⟩, Nat.le_of_ble_eq_true rfl, Nat.le_of_ble_eq_true rfl⟩ (Nat.le_of_ble_eq_true rfl) dX4_nextSlide_1 (Jk_v rfl rfl fun hok4 => ?_)
  obtain ⟨v5, e6, h⟩ := bnd_e h
  have hb8 : isB v5 := by rw [e6]; repeat (first | exact Or.inl rfl | exact Or.inr rfl | assumption | exact okB_b (by assumption) | apply isB_ite)
  refine J_join [(0, .ref 53)] M2 12 [.int v5] ?_ (fun hJ => ?_)
  · refine J_istore_n (pc := 12) dX4_nextSlide_12 rfl (Nat.le_of_ble_eq_true rfl) [1, 0] rfl ?_
    refine J_aload_n (pc := 13) dX4_nextSlide_13 rfl 0 rfl ?_
    refine J_LS [(0, .ref 53), (1, .int v5)] [.ref 53] rfl rfl ?_
    refine J_iload_n (pc := 14) dX4_nextSlide_14 rfl 1 rfl ?_
    obtain ⟨v9, e10, h⟩ := bnd_e h
    have hb12 : isB v9 := by rw [e10]; repeat (first | exact Or.inl rfl | exact Or.inr rfl | assumption | exact okB_b (by assumption) | apply isB_ite)
    refine J_join [(0, .ref 53)] M2 23 [.int v9, .ref 53] ?_ (fun hJ => ?_)
    · obtain ⟨v13, M14, hc15, h⟩ := obind2_e h
      refine J_callV (g := mi_X4_refused) (ci := 4) (pc := 23) [.int v9] [] mv_X4_refused w_1120 (k_X4_refused v9 _ hc15) rfl (by decide) rfl rfl rfl ⟨⟨Nat.le_of_ble_eq_true rfl, Nat.le_of_ble_eq_true rfl⟩, Nat.le_of_ble_eq_true rfl, Nat.le_of_ble_eq_true rfl⟩ (Nat.le_of_ble_eq_true rfl) dX4_nextSlide_23 (Jk_v rfl rfl fun hok16 => ?_)
      refine J_if_eq (pc := 26) (tgt := 33) dX4_nextSlide_26 (by decide) (fun c17 => ?_) (fun c17 => ?_)
      · replace h := ifp c17 h
        refine J_aload_n (pc := 33) dX4_nextSlide_33 rfl 0 rfl ?_
        obtain ⟨v18, hc19, h⟩ := obind_e h
        refine J_callV (g := mi_X4_next) (ci := 4) (pc := 34) [] [] mv_X4_next w_1262 (k_X4_next _ hc19) rfl (by decide) rfl rfl rfl ⟨⟨Nat.le_of_ble_eq_true rfl, Nat.le_of_ble_eq_true rfl⟩, Nat.le_of_ble_eq_true rfl, Nat.le_of_ble_eq_true rfl⟩ (Nat.le_of_ble_eq_true rfl) dX4_nextSlide_34 (Jk_v rfl rfl fun hok20 => ?_)
        cases h
        exact J_ireturn dX4_nextSlide_37 rfl rfl rfl rfl rfl
      · replace h := ifn c17 h
        refine J_iconst (v := (0 : Int32)) (pc := 29) dX4_nextSlide_29 (by decide) ?_
        refine J_goto (pc := 30) (tgt := 37) dX4_nextSlide_30 (by decide) ?_
        cases h
        exact J_ireturn dX4_nextSlide_37 rfl rfl rfl rfl rfl
    · refine J_if_eq (pc := 15) (tgt := 22) dX4_nextSlide_15 (by decide) (fun c11 => ?_) (fun c11 => ?_)
      · refine J_iconst (v := (1 : Int32)) (pc := 22) dX4_nextSlide_22 (by decide) ?_
        refine J_sub [0] rfl ?_
        refine J_topi (y := v9) (by rw [e10, if_pos c11]) ?_
        exact hJ
      · refine J_iconst (v := (0 : Int32)) (pc := 18) dX4_nextSlide_18 (by decide) ?_
        refine J_goto (pc := 19) (tgt := 23) dX4_nextSlide_19 (by decide) ?_
        refine J_sub [0] rfl ?_
        refine J_topi (y := v9) (by rw [e10, if_neg c11]) ?_
        exact hJ
  · refine J_if_le (pc := 4) (tgt := 11) dX4_nextSlide_4 (by decide) (fun c7 => ?_) (fun c7 => ?_)
    · refine J_iconst (v := (0 : Int32)) (pc := 11) dX4_nextSlide_11 (by decide) ?_
      refine J_topi (y := v5) (by rw [e6, if_pos c7]) ?_
      exact hJ
    · refine J_iconst (v := (1 : Int32)) (pc := 7) dX4_nextSlide_7 (by decide) ?_
      refine J_goto (pc := 8) (tgt := 12) dX4_nextSlide_8 (by decide) ?_
      refine J_topi (y := v5) (by rw [e6, if_neg c7]) ?_
      exact hJ
set_option maxHeartbeats 4000000 in
set_option maxRecDepth 100000 in
theorem k_X4_nextCar {E : En} (M : Wd) {r : Int32} {M' : Wd} (h : F_X4_nextCar M = some (r, M')) : Con E mi_X4_nextCar [.ref 53] M (.inl (some (.int r))) M' := by
  unfold F_X4_nextCar at h
  refine Con.of (by decide) rfl (Nat.le_of_ble_eq_true rfl) (fun κ => ?_)
  show J κ E mi_X4_nextCar _ 0 0 [(0, .ref 53)] M 0 []
  refine J_aload_n (pc := 0) dX4_nextCar_0 rfl 0 rfl ?_
  obtain ⟨v1, M2, hc3, h⟩ := obind2_e h
  refine J_callV (g := mi_X4_nextSlide) (ci := 4) (pc := 1) [] [] mv_X4_nextSlide w_1497 (k_X4_nextSlide _ hc3) rfl (by decide) rfl rfl rfl ⟨⟨Nat.le_of_ble_eq_true rfl, Nat.le_of_ble_eq_true rfl⟩, Nat.le_of_ble_eq_true rfl, Nat.le_of_ble_eq_true rfl⟩ (Nat.le_of_ble_eq_true rfl) dX4_nextCar_1 (Jk_v rfl rfl fun hok4 => ?_)
  refine J_bipush (v := (8 : Int32)) (pc := 4) dX4_nextCar_4 (by decide) ?_
  refine J_idiv (pc := 6) dX4_nextCar_6 (by decide) ?_
  cases h
  exact J_ireturn dX4_nextCar_7 rfl rfl rfl rfl rfl
set_option maxHeartbeats 4000000 in
set_option maxRecDepth 100000 in
theorem k_X4_nextChange {E : En} (M : Wd) {r : Int32} {M' : Wd} (h : F_X4_nextChange M = some (r, M')) : Con E mi_X4_nextChange [.ref 53] M (.inl (some (.int r))) M' := by
  unfold F_X4_nextChange at h
  refine Con.of (by decide) rfl (Nat.le_of_ble_eq_true rfl) (fun κ => ?_)
  show J κ E mi_X4_nextChange _ 0 0 [(0, .ref 53)] M 0 []
  refine J_aload_n (pc := 0) dX4_nextChange_0 rfl 0 rfl ?_
  obtain ⟨v1, M2, hc3, h⟩ := obind2_e h
  refine J_callV (g := mi_X4_nextSlide) (ci := 4) (pc := 1) [] [] mv_X4_nextSlide w_1497 (k_X4_nextSlide _ hc3) rfl (by decide) rfl rfl rfl ⟨⟨Nat.le_of_ble_eq_true rfl, Nat.le_of_ble_eq_true rfl⟩, Nat.le_of_ble_eq_true rfl, Nat.le_of_ble_eq_true rfl⟩ (Nat.le_of_ble_eq_true rfl) dX4_nextChange_1 (Jk_v rfl rfl fun hok4 => ?_)
  refine J_istore_n (pc := 4) dX4_nextChange_4 rfl (Nat.le_of_ble_eq_true rfl) [1, 0] rfl ?_
  refine J_LS [(0, .ref 53), (1, .int v1)] [] rfl rfl ?_
  refine J_aload_n (pc := 5) dX4_nextChange_5 rfl 0 rfl ?_
  refine get_53_0 (pc := 6) w_1023 dX4_nextChange_6 ?_
  refine J_if_le (pc := 9) (tgt := 16) dX4_nextChange_9 (by decide) (fun c5 => ?_) (fun c5 => ?_)
  · replace h := ifp c5 h
    refine J_iload_n (pc := 16) dX4_nextChange_16 rfl 1 rfl ?_
    refine J_LS [(0, .ref 53), (1, .int v1)] [.int v1] rfl rfl ?_
    refine J_bipush (v := (8 : Int32)) (pc := 17) dX4_nextChange_17 (by decide) ?_
    refine J_irem (pc := 19) dX4_nextChange_19 (by decide) ?_
    refine J_iconst (v := (3 : Int32)) (pc := 20) dX4_nextChange_20 (by decide) ?_
    refine J_isub (pc := 21) dX4_nextChange_21 ?_
    cases h
    exact J_ireturn dX4_nextChange_22 rfl rfl rfl rfl rfl
  · replace h := ifn c5 h
    refine J_iconst (v := (0 : Int32)) (pc := 12) dX4_nextChange_12 (by decide) ?_
    refine J_goto (pc := 13) (tgt := 22) dX4_nextChange_13 (by decide) ?_
    cases h
    exact J_ireturn dX4_nextChange_22 rfl rfl rfl rfl rfl
set_option maxHeartbeats 4000000 in
set_option maxRecDepth 100000 in
theorem kL_X4_reached_L30 {κ : Kx} {E : En} {Q : State → Prop} {ρ : Type} {r : ρ} (a1 : Int32) (M : Wd) (K74 : Int32 → Option ρ) (hK74 : ∀ (x2 : Int32), K74 x2 = some r → J κ E mi_X4_reached Q 0 0 [(0, .ref 53), (1, .int a1), (2, .int x2)] M 74 []) : ∀ (m : Nat) (x2 : Int32) (x3 : Int32), F_X4_reached_L30 a1 M K74 m x2 x3 = some r → J κ E mi_X4_reached Q 0 0 [(0, .ref 53), (1, .int a1), (2, .int x2), (3, .int x3)] M 30 [] := by
  intro m
  induction m with
  | zero => intro x2 x3 h; exact (nomatch (show (none : Option ρ) = some r from h))
  | succ m ih =>
    intro x2 x3 h
    unfold F_X4_reached_L30 at h
    refine J_iload_n (pc := 30) dX4_reached_30 rfl 3 rfl ?_
    refine J_aload_n (pc := 31) dX4_reached_31 rfl 0 rfl ?_
    refine J_LS [(0, .ref 53), (1, .int a1), (2, .int x2), (3, .int x3)] [.ref 53, .int x3] rfl rfl ?_
    refine get_53_14 (pc := 32) w_1037 dX4_reached_32 ?_
    refine J_icmp_ge (pc := 35) (tgt := 74) dX4_reached_35 (by decide) (fun c8 => ?_) (fun c8 => ?_)
    · replace h := ifp c8 h
      refine J_sub [0, 1, 2] rfl ?_
      exact hK74 _ h
    · replace h := ifn c8 h
      refine J_iload_n (pc := 38) dX4_reached_38 rfl 2 rfl ?_
      refine J_iload_n (pc := 39) dX4_reached_39 rfl 1 rfl ?_
      refine J_LS [(0, .ref 53), (1, .int a1), (2, .int x2), (3, .int x3)] [.int a1, .int x2] rfl rfl ?_
      obtain ⟨v9, hv17, h⟩ := obind_e h
      refine J_join [(0, .ref 53), (1, .int a1), (3, .int x3)] M 66 [.int v9, .int x2] ?_ (fun hJ => ?_)
      · refine J_iadd (pc := 66) dX4_reached_66 ?_
        obtain ⟨v18, e19, h⟩ := bnd_e h
        refine J_topi e19 ?_
        refine J_istore_n (pc := 67) dX4_reached_67 rfl (Nat.le_of_ble_eq_true rfl) [1, 2, 0, 3] rfl ?_
        obtain ⟨v20, e21, h⟩ := bnd_e h
        refine J_iinc (v := v20) (pc := 68) dX4_reached_68 3 rfl (by rw [e21]; rfl) (Nat.le_of_ble_eq_true rfl) [1, 2, 3, 0] rfl ?_
        refine J_goto (pc := 71) (tgt := 30) dX4_reached_71 (by decide) ?_
        exact ih _ _ h
      · replace h := hv17
        refine J_if_eq (pc := 40) (tgt := 61) dX4_reached_40 (by decide) (fun c10 => ?_) (fun c10 => ?_)
        · replace h := ifp c10 h
          refine J_iconst (v := (1 : Int32)) (pc := 61) dX4_reached_61 (by decide) ?_
          refine J_goto (pc := 62) (tgt := 66) dX4_reached_62 (by decide) ?_
          cases h
          refine J_sub [0, 1, 3] rfl ?_
          exact hJ
        · replace h := ifn c10 h
          refine J_iload_n (pc := 43) dX4_reached_43 rfl 1 rfl ?_
          refine J_iconst (v := (1 : Int32)) (pc := 44) dX4_reached_44 (by decide) ?_
          refine J_icmp_ne (pc := 45) (tgt := 65) dX4_reached_45 (by decide) (fun c11 => ?_) (fun c11 => ?_)
          · replace h := ifn c11 h
            refine J_iconst (v := (0 : Int32)) (pc := 65) dX4_reached_65 (by decide) ?_
            cases h
            refine J_sub [0, 1, 3] rfl ?_
            exact hJ
          · replace h := ifp c11 h
            refine J_aload_n (pc := 48) dX4_reached_48 rfl 0 rfl ?_
            refine J_LS [(0, .ref 53), (1, .int a1), (2, .int x2), (3, .int x3)] [.ref 53, .int x2] rfl rfl ?_
            refine J_aload_n (pc := 49) dX4_reached_49 rfl 0 rfl ?_
            refine get_53_12 (pc := 50) w_1035 dX4_reached_50 ?_
            refine J_iload_n (pc := 53) dX4_reached_53 rfl 3 rfl ?_
            refine J_LS [(0, .ref 53), (1, .int a1), (2, .int x2), (3, .int x3)] [.int x3, .ref 60, .ref 53, .int x2] rfl rfl ?_
            obtain ⟨v12, e13, hk14, h⟩ := ldi_e h
            refine J_iald (c := 60) (N := 4096) (pc := 54) ja_60 (Nat.le_of_ble_eq_true rfl) hk14 dX4_reached_54 ?_
            refine J_topi e13 ?_
            refine J_callV (g := mi_X4_isEnd) (ci := 4) (pc := 55) [.int v12] [.int x2] mv_X4_isEnd w_1230 (k_X4_isEnd v12 _) rfl (by decide) rfl rfl rfl ⟨⟨Nat.le_of_ble_eq_true rfl, Nat.le_of_ble_eq_true rfl⟩, Nat.le_of_ble_eq_true rfl, Nat.le_of_ble_eq_true rfl⟩ (Nat.le_of_ble_eq_true rfl) dX4_reached_55 (Jk_v rfl rfl fun hok15 => ?_)
            refine J_if_eq (pc := 58) (tgt := 65) dX4_reached_58 (by decide) (fun c16 => ?_) (fun c16 => ?_)
            · replace h := ifp c16 h
              refine J_iconst (v := (0 : Int32)) (pc := 65) dX4_reached_65 (by decide) ?_
              cases h
              refine J_sub [0, 1, 3] rfl ?_
              exact hJ
            · replace h := ifn c16 h
              refine J_iconst (v := (1 : Int32)) (pc := 61) dX4_reached_61 (by decide) ?_
              refine J_goto (pc := 62) (tgt := 66) dX4_reached_62 (by decide) ?_
              cases h
              refine J_sub [0, 1, 3] rfl ?_
              exact hJ
set_option maxHeartbeats 4000000 in
set_option maxRecDepth 100000 in
theorem k_X4_reached {E : En} (a1 : Int32) (M : Wd) {r : Int32} {M' : Wd} (h : F_X4_reached a1 M = some (r, M')) : Con E mi_X4_reached [.ref 53, .int a1] M (.inl (some (.int r))) M' := by
  unfold F_X4_reached at h
  refine Con.of (by decide) rfl (Nat.le_of_ble_eq_true rfl) (fun κ => ?_)
  show J κ E mi_X4_reached _ 0 0 [(0, .ref 53), (1, .int a1)] M 0 []
  refine J_aload_n (pc := 0) dX4_reached_0 rfl 0 rfl ?_
  refine J_aload_n (pc := 1) dX4_reached_1 rfl 0 rfl ?_
  refine J_LS [(0, .ref 53), (1, .int a1)] [.ref 53, .ref 53] rfl rfl ?_
  refine get_53_3 (pc := 2) w_1026 dX4_reached_2 ?_
  refine J_iconst (v := (0 : Int32)) (pc := 5) dX4_reached_5 (by decide) ?_
  refine J_iald (c := 55) (N := 82) (pc := 6) ja_55 (Nat.le_of_ble_eq_true rfl) (vpc rfl) dX4_reached_6 ?_
  refine J_topi (x := M.1 55 (Int32.toNatClampNeg 0)) (y := (M.1 55 0)) (Eq.symm (a := M.1 55 (Int32.toNatClampNeg 0)) (show M.1 55 0 = (M.1 55 0) from rfl)) ?_
  refine J_aload_n (pc := 7) dX4_reached_7 rfl 0 rfl ?_
  refine get_53_3 (pc := 8) w_1026 dX4_reached_8 ?_
  refine J_bipush (v := (19 : Int32)) (pc := 11) dX4_reached_11 (by decide) ?_
  refine J_iald (c := 55) (N := 82) (pc := 13) ja_55 (Nat.le_of_ble_eq_true rfl) (vpc rfl) dX4_reached_13 ?_
  refine J_topi (x := M.1 55 (Int32.toNatClampNeg 19)) (y := (M.1 55 19)) (Eq.symm (a := M.1 55 (Int32.toNatClampNeg 19)) (show M.1 55 19 = (M.1 55 19) from rfl)) ?_
  obtain ⟨M1, hc2, h⟩ := obind_e h
  refine J_callV (g := mi_X4_prepares) (ci := 4) (pc := 14) [.int (M.1 55 0), .int (M.1 55 19)] [] mv_X4_prepares w_1218 (k_X4_prepares (M.1 55 0) (M.1 55 19) _ hc2) rfl (by decide) rfl rfl rfl ⟨⟨Nat.le_of_ble_eq_true rfl, Nat.le_of_ble_eq_true rfl⟩, Nat.le_of_ble_eq_true rfl, Nat.le_of_ble_eq_true rfl⟩ (Nat.le_of_ble_eq_true rfl) dX4_reached_14 (Jk_0 rfl rfl ?_)
  refine J_aload_n (pc := 17) dX4_reached_17 rfl 0 rfl ?_
  refine J_LS [(0, .ref 53), (1, .int a1)] [.ref 53] rfl rfl ?_
  refine J_aload_n (pc := 18) dX4_reached_18 rfl 0 rfl ?_
  obtain ⟨v3, hc4, h⟩ := obind_e h
  refine J_callV (g := mi_X4_codeNow) (ci := 4) (pc := 19) [] [.ref 53] mv_X4_codeNow w_1254 (k_X4_codeNow _ hc4) rfl (by decide) rfl rfl rfl ⟨⟨Nat.le_of_ble_eq_true rfl, Nat.le_of_ble_eq_true rfl⟩, Nat.le_of_ble_eq_true rfl, Nat.le_of_ble_eq_true rfl⟩ (Nat.le_of_ble_eq_true rfl) dX4_reached_19 (Jk_v rfl rfl fun hok5 => ?_)
  refine J_iconst (v := (3 : Int32)) (pc := 22) dX4_reached_22 (by decide) ?_
  obtain ⟨M6, hc7, h⟩ := obind_e h
  refine J_callV (g := mi_X4_from) (ci := 4) (pc := 23) [.int v3, .int (3 : Int32)] [] mv_X4_from w_1453 (k_X4_from v3 (3 : Int32) _ hc7) rfl (by decide) rfl rfl rfl ⟨⟨Nat.le_of_ble_eq_true rfl, Nat.le_of_ble_eq_true rfl⟩, Nat.le_of_ble_eq_true rfl, Nat.le_of_ble_eq_true rfl⟩ (Nat.le_of_ble_eq_true rfl) dX4_reached_23 (Jk_0 rfl rfl ?_)
  refine J_iconst (v := (0 : Int32)) (pc := 26) dX4_reached_26 (by decide) ?_
  refine J_istore_n (pc := 27) dX4_reached_27 rfl (Nat.le_of_ble_eq_true rfl) [1, 2, 0] rfl ?_
  refine J_LS [(0, .ref 53), (1, .int a1), (2, .int (0 : Int32))] [] rfl rfl ?_
  refine J_iconst (v := (0 : Int32)) (pc := 28) dX4_reached_28 (by decide) ?_
  refine J_istore_n (pc := 29) dX4_reached_29 rfl (Nat.le_of_ble_eq_true rfl) [1, 2, 3, 0] rfl ?_
  refine kL_X4_reached_L30 _ _ _ (fun v22 h => ?_) fuelN _ _ h
  refine J_iload_n (pc := 74) dX4_reached_74 rfl 1 rfl ?_
  refine J_LS [(0, .ref 53), (1, .int a1), (2, .int v22)] [.int a1] rfl rfl ?_
  refine J_iconst (v := (2 : Int32)) (pc := 75) dX4_reached_75 (by decide) ?_
  refine J_icmp_ne (pc := 76) (tgt := 98) dX4_reached_76 (by decide) (fun c23 => ?_) (fun c23 => ?_)
  · replace h := ifn c23 h
    refine J_iload_n (pc := 98) dX4_reached_98 rfl 2 rfl ?_
    cases h
    exact J_ireturn dX4_reached_99 rfl rfl rfl rfl rfl
  · replace h := ifp c23 h
    refine J_aload_n (pc := 79) dX4_reached_79 rfl 0 rfl ?_
    refine get_53_11 (pc := 80) w_1034 dX4_reached_80 ?_
    refine J_aload_n (pc := 83) dX4_reached_83 rfl 0 rfl ?_
    refine J_LS [(0, .ref 53), (1, .int a1), (2, .int v22)] [.ref 53, .ref 59] rfl rfl ?_
    refine get_53_12 (pc := 84) w_1035 dX4_reached_84 ?_
    refine J_aload_n (pc := 87) dX4_reached_87 rfl 0 rfl ?_
    refine get_53_14 (pc := 88) w_1037 dX4_reached_88 ?_
    refine J_iconst (v := (1 : Int32)) (pc := 91) dX4_reached_91 (by decide) ?_
    refine J_isub (pc := 92) dX4_reached_92 ?_
    obtain ⟨v24, e25, hk26, h⟩ := ldi_e h
    refine J_iald (c := 60) (N := 4096) (pc := 93) ja_60 (Nat.le_of_ble_eq_true rfl) hk26 dX4_reached_93 ?_
    refine J_topi e25 ?_
    obtain ⟨v27, e28, hk29, h⟩ := ldi_e h
    refine J_iald (c := 59) (N := 4096) (pc := 94) ja_59 (Nat.le_of_ble_eq_true rfl) hk29 dX4_reached_94 ?_
    refine J_topi e28 ?_
    refine J_goto (pc := 95) (tgt := 99) dX4_reached_95 (by decide) ?_
    cases h
    exact J_ireturn dX4_reached_99 rfl rfl rfl rfl rfl
set_option maxHeartbeats 4000000 in
set_option maxRecDepth 100000 in
theorem k_X4_reachable {E : En} (M : Wd) {r : Int32} {M' : Wd} (h : F_X4_reachable M = some (r, M')) : Con E mi_X4_reachable [.ref 53] M (.inl (some (.int r))) M' := by
  unfold F_X4_reachable at h
  refine Con.of (by decide) rfl (Nat.le_of_ble_eq_true rfl) (fun κ => ?_)
  show J κ E mi_X4_reachable _ 0 0 [(0, .ref 53)] M 0 []
  refine J_aload_n (pc := 0) dX4_reachable_0 rfl 0 rfl ?_
  refine J_aload_n (pc := 1) dX4_reachable_1 rfl 0 rfl ?_
  refine J_LS [(0, .ref 53)] [.ref 53, .ref 53] rfl rfl ?_
  refine J_iconst (v := (0 : Int32)) (pc := 2) dX4_reachable_2 (by decide) ?_
  obtain ⟨v1, M2, hc3, h⟩ := obind2_e h
  refine J_callV (g := mi_X4_reached) (ci := 4) (pc := 3) [.int (0 : Int32)] [.ref 53] mv_X4_reached w_1509 (k_X4_reached (0 : Int32) _ hc3) rfl (by decide) rfl rfl rfl ⟨⟨Nat.le_of_ble_eq_true rfl, Nat.le_of_ble_eq_true rfl⟩, Nat.le_of_ble_eq_true rfl, Nat.le_of_ble_eq_true rfl⟩ (Nat.le_of_ble_eq_true rfl) dX4_reachable_3 (Jk_v rfl rfl fun hok4 => ?_)
  obtain ⟨v5, M6, hc7, h⟩ := obind2_e h
  refine J_callV (g := mi_X4_told) (ci := 4) (pc := 6) [.int v1] [] mv_X4_told w_1349 (k_X4_told v1 _ hc7) rfl (by decide) rfl rfl rfl ⟨⟨Nat.le_of_ble_eq_true rfl, Nat.le_of_ble_eq_true rfl⟩, Nat.le_of_ble_eq_true rfl, Nat.le_of_ble_eq_true rfl⟩ (Nat.le_of_ble_eq_true rfl) dX4_reachable_6 (Jk_v rfl rfl fun hok8 => ?_)
  cases h
  exact J_ireturn dX4_reachable_9 rfl rfl rfl rfl rfl

set_option maxHeartbeats 4000000 in
set_option maxRecDepth 100000 in
theorem kL_X0_behindSlide_L20 {κ : Kx} {E : En} {Q : State → Prop} {ρ : Type} {r : ρ} (a2 : Int32) (a4 : Int32) (M : Wd) (K48 : Int32 → Option ρ) (hK48 : ∀ (x5 : Int32), K48 x5 = some r → J κ E mi_X0_behindSlide Q 0 0 [(5, .int x5)] M 48 []) : ∀ (m : Nat) (x5 : Int32) (x6 : Int32), F_X0_behindSlide_L20 a2 a4 M K48 m x5 x6 = some r → J κ E mi_X0_behindSlide Q 0 0 [(0, .ref 44), (2, .int a2), (4, .int a4), (5, .int x5), (6, .int x6)] M 20 [] := by
  intro m
  induction m with
  | zero => intro x5 x6 h; exact (nomatch (show (none : Option ρ) = some r from h))
  | succ m ih =>
    intro x5 x6 h
    unfold F_X0_behindSlide_L20 at h
    refine J_iload (pc := 20) dX0_behindSlide_20 4 rfl ?_
    refine J_if_le (pc := 22) (tgt := 48) dX0_behindSlide_22 (by decide) (fun c6 => ?_) (fun c6 => ?_)
    · replace h := ifp c6 h
      refine J_sub [3] rfl ?_
      exact hK48 _ h
    · replace h := ifn c6 h
      refine J_iload (pc := 25) dX0_behindSlide_25 3 rfl ?_
      refine J_iconst (v := (-1 : Int32)) (pc := 27) dX0_behindSlide_27 (by decide) ?_
      refine J_icmp_eq (pc := 28) (tgt := 48) dX0_behindSlide_28 (by decide) (fun c7 => ?_) (fun c7 => ?_)
      · replace h := ifp c7 h
        refine J_sub [3] rfl ?_
        exact hK48 _ h
      · replace h := ifn c7 h
        refine J_aload_n (pc := 31) dX0_behindSlide_31 rfl 0 rfl ?_
        refine J_iload (pc := 32) dX0_behindSlide_32 3 rfl ?_
        refine J_iload_n (pc := 34) dX0_behindSlide_34 rfl 1 rfl ?_
        refine J_iload (pc := 35) dX0_behindSlide_35 2 rfl ?_
        obtain ⟨v8, hc9, h⟩ := obind_e h
        refine J_callV (g := mi_X0_behindStep) (ci := 0) (pc := 37) [.int x5, .int a2, .int a4] [] mv_X0_behindStep w_450 (k_X0_behindStep x5 a2 a4 _ hc9) rfl (by decide) rfl rfl rfl ⟨⟨Nat.le_of_ble_eq_true rfl, Nat.le_of_ble_eq_true rfl⟩, Nat.le_of_ble_eq_true rfl, Nat.le_of_ble_eq_true rfl⟩ (Nat.le_of_ble_eq_true rfl) dX0_behindSlide_37 (Jk_v rfl rfl fun hok10 => ?_)
        refine J_istore (pc := 40) dX0_behindSlide_40 (Nat.le_of_ble_eq_true rfl) [1, 2, 3, 0, 4] rfl ?_
        obtain ⟨v11, e12, h⟩ := bnd_e h
        refine J_iinc (v := v11) (pc := 42) dX0_behindSlide_42 4 rfl (by rw [e12]; rfl) (Nat.le_of_ble_eq_true rfl) [1, 2, 3, 4, 0] rfl ?_
        refine J_goto (pc := 45) (tgt := 20) dX0_behindSlide_45 (by decide) ?_
        exact ih _ _ h
set_option maxHeartbeats 4000000 in
set_option maxRecDepth 100000 in
theorem k_X0_behindSlide {E : En} (a1 : Int32) (a2 : Int32) (a3 : Int32) (M : Wd) {r : Int32} (h : F_X0_behindSlide a1 a2 a3 M = some r) : Con E mi_X0_behindSlide [.ref 44, .int a1, .int a2, .int a3] M (.inl (some (.int r))) M := by
  unfold F_X0_behindSlide at h
  refine Con.of (by decide) rfl (Nat.le_of_ble_eq_true rfl) (fun κ => ?_)
  show J κ E mi_X0_behindSlide _ 0 0 [(0, .ref 44), (1, .int a1), (2, .int a2), (3, .int a3)] M 0 []
  refine J_iload_n (pc := 0) dX0_behindSlide_0 rfl 3 rfl ?_
  obtain ⟨v1, e2, h⟩ := bnd_e h
  refine J_join [(0, .ref 44), (1, .int a1), (2, .int a2), (3, .int a3)] M 9 [.int v1] ?_ (fun hJ => ?_)
  · refine J_istore (pc := 9) dX0_behindSlide_9 (Nat.le_of_ble_eq_true rfl) [1, 2, 3, 4, 0] rfl ?_
    refine J_iload_n (pc := 11) dX0_behindSlide_11 rfl 1 rfl ?_
    refine J_istore (pc := 12) dX0_behindSlide_12 (Nat.le_of_ble_eq_true rfl) [1, 2, 3, 4, 5, 0] rfl ?_
    refine J_iload_n (pc := 14) dX0_behindSlide_14 rfl 3 rfl ?_
    refine J_mabs (pc := 15) w_818 w_379 w_378 w_93 (Nat.le_of_ble_eq_true rfl) (Nat.le_of_ble_eq_true rfl) (Nat.le_of_ble_eq_true rfl) (Nat.le_of_ble_eq_true rfl) dX0_behindSlide_15 ?_
    obtain ⟨v4, e5, h⟩ := bnd_e h
    refine J_topi e5 ?_
    refine J_istore (pc := 18) dX0_behindSlide_18 (Nat.le_of_ble_eq_true rfl) [1, 2, 3, 4, 5, 6, 0] rfl ?_
    refine J_sub [0, 2, 4, 5, 6] rfl ?_
    refine kL_X0_behindSlide_L20 _ _ _ _ (fun v13 h => ?_) fuelN _ _ h
    refine J_iload (pc := 48) dX0_behindSlide_48 0 rfl ?_
    cases h
    exact J_ireturn dX0_behindSlide_50 rfl rfl rfl rfl rfl
  · refine J_if_le (pc := 1) (tgt := 8) dX0_behindSlide_1 (by decide) (fun c3 => ?_) (fun c3 => ?_)
    · refine J_iconst (v := (-1 : Int32)) (pc := 8) dX0_behindSlide_8 (by decide) ?_
      refine J_topi (y := v1) (by rw [e2, if_pos c3]) ?_
      exact hJ
    · refine J_iconst (v := (1 : Int32)) (pc := 4) dX0_behindSlide_4 (by decide) ?_
      refine J_goto (pc := 5) (tgt := 9) dX0_behindSlide_5 (by decide) ?_
      refine J_topi (y := v1) (by rw [e2, if_neg c3]) ?_
      exact hJ
set_option maxHeartbeats 4000000 in
set_option maxRecDepth 100000 in
theorem k_X0_find {E : En} (a1 : Int32) (a2 : Int32) (M : Wd) {M' : Wd} (h : F_X0_find a1 a2 M = some M') : Con E mi_X0_find [.ref 44, .int a1, .int a2] M (.inl none) M' := by
  unfold F_X0_find at h
  refine Con.of (by decide) rfl (Nat.le_of_ble_eq_true rfl) (fun κ => ?_)
  show J κ E mi_X0_find _ 0 0 [(0, .ref 44), (1, .int a1), (2, .int a2)] M 0 []
  refine J_iload_n (pc := 0) dX0_find_0 rfl 1 rfl ?_
  refine J_if_lt (pc := 1) (tgt := 22) dX0_find_1 (by decide) (fun c1 => ?_) (fun c1 => ?_)
  · replace h := ifp c1 h
    cases h
    exact J_return dX0_find_22 rfl rfl rfl rfl rfl
  · replace h := ifn c1 h
    refine J_iload_n (pc := 4) dX0_find_4 rfl 1 rfl ?_
    refine J_aload_n (pc := 5) dX0_find_5 rfl 0 rfl ?_
    refine get_44_7 (pc := 6) w_168 dX0_find_6 ?_
    refine J_icmp_ge (pc := 9) (tgt := 22) dX0_find_9 (by decide) (fun c2 => ?_) (fun c2 => ?_)
    · replace h := ifp c2 h
      cases h
      exact J_return dX0_find_22 rfl rfl rfl rfl rfl
    · replace h := ifn c2 h
      refine J_aload_n (pc := 12) dX0_find_12 rfl 0 rfl ?_
      refine get_44_1 (pc := 13) w_162 dX0_find_13 ?_
      refine J_iload_n (pc := 16) dX0_find_16 rfl 1 rfl ?_
      obtain ⟨v3, e4, hk5, h⟩ := ldi_e h
      refine J_iald (c := 46) (N := 4096) (pc := 17) ja_46 (Nat.le_of_ble_eq_true rfl) hk5 dX0_find_17 ?_
      refine J_topi e4 ?_
      refine J_iconst (v := (-1 : Int32)) (pc := 18) dX0_find_18 (by decide) ?_
      refine J_icmp_ne (pc := 19) (tgt := 23) dX0_find_19 (by decide) (fun c6 => ?_) (fun c6 => ?_)
      · replace h := ifn c6 h
        refine J_aload_n (pc := 23) dX0_find_23 rfl 0 rfl ?_
        refine get_44_2 (pc := 24) w_163 dX0_find_24 ?_
        refine J_iload_n (pc := 27) dX0_find_27 rfl 1 rfl ?_
        obtain ⟨v7, e8, hk9, h⟩ := ldi_e h
        refine J_iald (c := 47) (N := 4096) (pc := 28) ja_47 (Nat.le_of_ble_eq_true rfl) hk9 dX0_find_28 ?_
        refine J_topi e8 ?_
        refine J_iconst (v := (-1 : Int32)) (pc := 29) dX0_find_29 (by decide) ?_
        refine J_icmp_ne (pc := 30) (tgt := 77) dX0_find_30 (by decide) (fun c10 => ?_) (fun c10 => ?_)
        · replace h := ifn c10 h
          cases h
          exact J_return dX0_find_77 rfl rfl rfl rfl rfl
        · replace h := ifp c10 h
          refine J_aload_n (pc := 33) dX0_find_33 rfl 0 rfl ?_
          refine get_44_9 (pc := 34) w_171 dX0_find_34 ?_
          refine J_if_lt (pc := 37) (tgt := 77) dX0_find_37 (by decide) (fun c11 => ?_) (fun c11 => ?_)
          · replace h := ifp c11 h
            cases h
            exact J_return dX0_find_77 rfl rfl rfl rfl rfl
          · replace h := ifn c11 h
            refine J_aload_n (pc := 40) dX0_find_40 rfl 0 rfl ?_
            refine get_44_9 (pc := 41) w_171 dX0_find_41 ?_
            refine J_sipush (v := (4096 : Int32)) (pc := 44) dX0_find_44 (by decide) ?_
            refine J_icmp_ge (pc := 47) (tgt := 77) dX0_find_47 (by decide) (fun c12 => ?_) (fun c12 => ?_)
            · replace h := ifp c12 h
              cases h
              exact J_return dX0_find_77 rfl rfl rfl rfl rfl
            · replace h := ifn c12 h
              refine J_aload_n (pc := 50) dX0_find_50 rfl 0 rfl ?_
              refine get_44_2 (pc := 51) w_163 dX0_find_51 ?_
              refine J_iload_n (pc := 54) dX0_find_54 rfl 1 rfl ?_
              refine J_iload_n (pc := 55) dX0_find_55 rfl 2 rfl ?_
              obtain ⟨hk13, h⟩ := inb_e h
              refine J_iast (c := 47) (N := 4096) (pc := 56) (fun _ => ja_47) (Nat.le_of_ble_eq_true rfl) hk13 dX0_find_56 ?_
              refine J_aload_n (pc := 57) dX0_find_57 rfl 0 rfl ?_
              refine get_44_3 (pc := 58) w_164 dX0_find_58 ?_
              refine J_aload_n (pc := 61) dX0_find_61 rfl 0 rfl ?_
              refine get_44_9 (pc := 62) w_171 dX0_find_62 ?_
              refine J_topi (y := (M.1 44 9)) (Eq.symm (show (upI M 47 a1.toNatClampNeg a2).1 44 9 = (M.1 44 9) from (eI_ne (Nat.ne_of_beq_eq_false rfl) rfl))) ?_
              refine J_iload_n (pc := 65) dX0_find_65 rfl 1 rfl ?_
              obtain ⟨hk14, h⟩ := inb_e h
              refine J_iast (c := 48) (N := 4096) (pc := 66) (fun _ => ja_48) (Nat.le_of_ble_eq_true rfl) hk14 dX0_find_66 ?_
              refine J_aload_n (pc := 67) dX0_find_67 rfl 0 rfl ?_
              refine J_dup (pc := 68) dX0_find_68 rfl ?_
              refine get_44_9 (pc := 69) w_171 dX0_find_69 ?_
              refine J_topi (y := (M.1 44 9)) (Eq.symm (show (upI (upI M 47 a1.toNatClampNeg a2) 48 (M.1 44 9).toNatClampNeg a1).1 44 9 = (M.1 44 9) from (eI_ne (Nat.ne_of_beq_eq_false rfl) (eI_ne (Nat.ne_of_beq_eq_false rfl) rfl)))) ?_
              refine J_iconst (v := (1 : Int32)) (pc := 72) dX0_find_72 (by decide) ?_
              refine J_iadd (pc := 73) dX0_find_73 ?_
              refine put_44_9 (pc := 74) w_171 dX0_find_74 ?_
              cases h
              exact J_return dX0_find_77 rfl rfl rfl rfl rfl
      · replace h := ifp c6 h
        cases h
        exact J_return dX0_find_22 rfl rfl rfl rfl rfl
set_option maxHeartbeats 4000000 in
set_option maxRecDepth 100000 in
theorem k_X1_troubleOfSliding {E : En} (a1 : Int32) (a2 : Int32) (M : Wd) {r : Int32} (h : F_X1_troubleOfSliding a1 a2 M = some r) : Con E mi_X1_troubleOfSliding [.ref 1, .int a1, .int a2] M (.inl (some (.int r))) M := by
  unfold F_X1_troubleOfSliding at h
  refine Con.of (by decide) rfl (Nat.le_of_ble_eq_true rfl) (fun κ => ?_)
  show J κ E mi_X1_troubleOfSliding _ 0 0 [(0, .ref 1), (1, .int a1), (2, .int a2)] M 0 []
  refine J_aload_n (pc := 0) dX1_troubleOfSliding_0 rfl 0 rfl ?_
  refine J_iload_n (pc := 1) dX1_troubleOfSliding_1 rfl 1 rfl ?_
  refine J_callV (g := mi_X1_hasCar) (ci := 1) (pc := 2) [.int a1] [] mv_X1_hasCar w_268 (k_X1_hasCar a1 _) rfl (by decide) rfl rfl rfl ⟨⟨Nat.le_of_ble_eq_true rfl, Nat.le_of_ble_eq_true rfl⟩, Nat.le_of_ble_eq_true rfl, Nat.le_of_ble_eq_true rfl⟩ (Nat.le_of_ble_eq_true rfl) dX1_troubleOfSliding_2 (Jk_v rfl rfl fun hok1 => ?_)
  refine J_if_ne (pc := 5) (tgt := 10) dX1_troubleOfSliding_5 (by decide) (fun c2 => ?_) (fun c2 => ?_)
  · replace h := ifn c2 h
    refine J_iload_n (pc := 10) dX1_troubleOfSliding_10 rfl 2 rfl ?_
    refine J_bipush (v := (-3 : Int32)) (pc := 11) dX1_troubleOfSliding_11 (by decide) ?_
    refine J_icmp_lt (pc := 13) (tgt := 25) dX1_troubleOfSliding_13 (by decide) (fun c3 => ?_) (fun c3 => ?_)
    · replace h := ifp c3 h
      refine J_iconst (v := (2 : Int32)) (pc := 25) dX1_troubleOfSliding_25 (by decide) ?_
      cases h
      exact J_ireturn dX1_troubleOfSliding_26 rfl rfl rfl rfl rfl
    · replace h := ifn c3 h
      refine J_iload_n (pc := 16) dX1_troubleOfSliding_16 rfl 2 rfl ?_
      refine J_iconst (v := (3 : Int32)) (pc := 17) dX1_troubleOfSliding_17 (by decide) ?_
      refine J_icmp_gt (pc := 18) (tgt := 25) dX1_troubleOfSliding_18 (by decide) (fun c4 => ?_) (fun c4 => ?_)
      · replace h := ifp c4 h
        refine J_iconst (v := (2 : Int32)) (pc := 25) dX1_troubleOfSliding_25 (by decide) ?_
        cases h
        exact J_ireturn dX1_troubleOfSliding_26 rfl rfl rfl rfl rfl
      · replace h := ifn c4 h
        refine J_iload_n (pc := 21) dX1_troubleOfSliding_21 rfl 2 rfl ?_
        refine J_if_ne (pc := 22) (tgt := 27) dX1_troubleOfSliding_22 (by decide) (fun c5 => ?_) (fun c5 => ?_)
        · replace h := ifn c5 h
          refine J_iload_n (pc := 27) dX1_troubleOfSliding_27 rfl 2 rfl ?_
          obtain ⟨v6, hv14, h⟩ := obind_e h
          refine J_join [(2, .int a2)] M 46 [.int v6] ?_ (fun hJ => ?_)
          · refine J_istore_n (pc := 46) dX1_troubleOfSliding_46 rfl (Nat.le_of_ble_eq_true rfl) [1, 0] rfl ?_
            refine J_iload_n (pc := 47) dX1_troubleOfSliding_47 rfl 0 rfl ?_
            refine J_mabs (pc := 48) w_377 w_379 w_378 w_93 (Nat.le_of_ble_eq_true rfl) (Nat.le_of_ble_eq_true rfl) (Nat.le_of_ble_eq_true rfl) (Nat.le_of_ble_eq_true rfl) dX1_troubleOfSliding_48 ?_
            refine J_iload_n (pc := 51) dX1_troubleOfSliding_51 rfl 1 rfl ?_
            refine J_icmp_le (pc := 52) (tgt := 59) dX1_troubleOfSliding_52 (by decide) (fun c15 => ?_) (fun c15 => ?_)
            · replace h := ifp c15 h
              refine J_iconst (v := (0 : Int32)) (pc := 59) dX1_troubleOfSliding_59 (by decide) ?_
              cases h
              exact J_ireturn dX1_troubleOfSliding_60 rfl rfl rfl rfl rfl
            · replace h := ifn c15 h
              refine J_iconst (v := (3 : Int32)) (pc := 55) dX1_troubleOfSliding_55 (by decide) ?_
              refine J_goto (pc := 56) (tgt := 60) dX1_troubleOfSliding_56 (by decide) ?_
              cases h
              exact J_ireturn dX1_troubleOfSliding_60 rfl rfl rfl rfl rfl
          · replace h := hv14
            refine J_if_le (pc := 28) (tgt := 40) dX1_troubleOfSliding_28 (by decide) (fun c7 => ?_) (fun c7 => ?_)
            · replace h := ifp c7 h
              refine J_aload_n (pc := 40) dX1_troubleOfSliding_40 rfl 0 rfl ?_
              refine J_iload_n (pc := 41) dX1_troubleOfSliding_41 rfl 1 rfl ?_
              refine J_iconst (v := (-1 : Int32)) (pc := 42) dX1_troubleOfSliding_42 (by decide) ?_
              obtain ⟨v8, hc9, h⟩ := obind_e h
              refine J_callV (g := mi_X1_roomOf) (ci := 1) (pc := 43) [.int a1, .int (-1 : Int32)] [] mv_X1_roomOf w_780 (k_X1_roomOf a1 (-1 : Int32) _ hc9) rfl (by decide) rfl rfl rfl ⟨⟨Nat.le_of_ble_eq_true rfl, Nat.le_of_ble_eq_true rfl⟩, Nat.le_of_ble_eq_true rfl, Nat.le_of_ble_eq_true rfl⟩ (Nat.le_of_ble_eq_true rfl) dX1_troubleOfSliding_43 (Jk_v rfl rfl fun hok10 => ?_)
              cases h
              refine J_sub [2] rfl ?_
              exact hJ
            · replace h := ifn c7 h
              refine J_aload_n (pc := 31) dX1_troubleOfSliding_31 rfl 0 rfl ?_
              refine J_iload_n (pc := 32) dX1_troubleOfSliding_32 rfl 1 rfl ?_
              refine J_iconst (v := (1 : Int32)) (pc := 33) dX1_troubleOfSliding_33 (by decide) ?_
              obtain ⟨v11, hc12, h⟩ := obind_e h
              refine J_callV (g := mi_X1_roomOf) (ci := 1) (pc := 34) [.int a1, .int (1 : Int32)] [] mv_X1_roomOf w_780 (k_X1_roomOf a1 (1 : Int32) _ hc12) rfl (by decide) rfl rfl rfl ⟨⟨Nat.le_of_ble_eq_true rfl, Nat.le_of_ble_eq_true rfl⟩, Nat.le_of_ble_eq_true rfl, Nat.le_of_ble_eq_true rfl⟩ (Nat.le_of_ble_eq_true rfl) dX1_troubleOfSliding_34 (Jk_v rfl rfl fun hok13 => ?_)
              refine J_goto (pc := 37) (tgt := 46) dX1_troubleOfSliding_37 (by decide) ?_
              cases h
              refine J_sub [2] rfl ?_
              exact hJ
        · replace h := ifp c5 h
          refine J_iconst (v := (2 : Int32)) (pc := 25) dX1_troubleOfSliding_25 (by decide) ?_
          cases h
          exact J_ireturn dX1_troubleOfSliding_26 rfl rfl rfl rfl rfl
  · replace h := ifp c2 h
    refine J_iconst (v := (1 : Int32)) (pc := 8) dX1_troubleOfSliding_8 (by decide) ?_
    cases h
    exact J_ireturn dX1_troubleOfSliding_9 rfl rfl rfl rfl rfl
set_option maxHeartbeats 4000000 in
set_option maxRecDepth 100000 in
theorem k_X1_makeSlide {E : En} (a1 : Int32) (a2 : Int32) (M : Wd) {r : Int32} {M' : Wd} (h : F_X1_makeSlide a1 a2 M = some (r, M')) : Con E mi_X1_makeSlide [.ref 1, .int a1, .int a2] M (.inl (some (.int r))) M' := by
  unfold F_X1_makeSlide at h
  refine Con.of (by decide) rfl (Nat.le_of_ble_eq_true rfl) (fun κ => ?_)
  show J κ E mi_X1_makeSlide _ 0 0 [(0, .ref 1), (1, .int a1), (2, .int a2)] M 0 []
  refine J_aload_n (pc := 0) dX1_makeSlide_0 rfl 0 rfl ?_
  refine J_iload_n (pc := 1) dX1_makeSlide_1 rfl 1 rfl ?_
  refine J_callV (g := mi_X1_hasCar) (ci := 1) (pc := 2) [.int a1] [] mv_X1_hasCar w_268 (k_X1_hasCar a1 _) rfl (by decide) rfl rfl rfl ⟨⟨Nat.le_of_ble_eq_true rfl, Nat.le_of_ble_eq_true rfl⟩, Nat.le_of_ble_eq_true rfl, Nat.le_of_ble_eq_true rfl⟩ (Nat.le_of_ble_eq_true rfl) dX1_makeSlide_2 (Jk_v rfl rfl fun hok1 => ?_)
  refine J_if_eq (pc := 5) (tgt := 24) dX1_makeSlide_5 (by decide) (fun c2 => ?_) (fun c2 => ?_)
  · replace h := ifp c2 h
    refine J_iconst (v := (-1 : Int32)) (pc := 24) dX1_makeSlide_24 (by decide) ?_
    cases h
    exact J_ireturn dX1_makeSlide_25 rfl rfl rfl rfl rfl
  · replace h := ifn c2 h
    refine J_aload_n (pc := 8) dX1_makeSlide_8 rfl 0 rfl ?_
    refine get_1_7 (pc := 9) w_126 dX1_makeSlide_9 ?_
    refine J_if_lt (pc := 12) (tgt := 24) dX1_makeSlide_12 (by decide) (fun c3 => ?_) (fun c3 => ?_)
    · replace h := ifp c3 h
      refine J_iconst (v := (-1 : Int32)) (pc := 24) dX1_makeSlide_24 (by decide) ?_
      cases h
      exact J_ireturn dX1_makeSlide_25 rfl rfl rfl rfl rfl
    · replace h := ifn c3 h
      refine J_aload_n (pc := 15) dX1_makeSlide_15 rfl 0 rfl ?_
      refine get_1_7 (pc := 16) w_126 dX1_makeSlide_16 ?_
      refine J_bipush (v := (60 : Int32)) (pc := 19) dX1_makeSlide_19 (by decide) ?_
      refine J_icmp_lt (pc := 21) (tgt := 26) dX1_makeSlide_21 (by decide) (fun c4 => ?_) (fun c4 => ?_)
      · replace h := ifp c4 h
        refine J_aload_n (pc := 26) dX1_makeSlide_26 rfl 0 rfl ?_
        refine get_1_1 (pc := 27) w_112 dX1_makeSlide_27 ?_
        refine J_iload_n (pc := 30) dX1_makeSlide_30 rfl 1 rfl ?_
        refine J_dup2 (pc := 31) dX1_makeSlide_31 rfl rfl ?_
        obtain ⟨v5, e6, hk7, h⟩ := ldi_e h
        refine J_iald (c := 3) (N := 6) (pc := 32) ja_3 (Nat.le_of_ble_eq_true rfl) hk7 dX1_makeSlide_32 ?_
        refine J_topi e6 ?_
        refine J_iload_n (pc := 33) dX1_makeSlide_33 rfl 2 rfl ?_
        refine J_iadd (pc := 34) dX1_makeSlide_34 ?_
        obtain ⟨hk8, h⟩ := inb_e h
        refine J_iast (c := 3) (N := 6) (pc := 35) (fun _ => ja_3) (Nat.le_of_ble_eq_true rfl) hk8 dX1_makeSlide_35 ?_
        refine J_aload_n (pc := 36) dX1_makeSlide_36 rfl 0 rfl ?_
        refine get_1_3 (pc := 37) w_118 dX1_makeSlide_37 ?_
        refine J_aload_n (pc := 40) dX1_makeSlide_40 rfl 0 rfl ?_
        refine get_1_7 (pc := 41) w_126 dX1_makeSlide_41 ?_
        refine J_topi (y := (M.1 1 7)) (Eq.symm (show (upI M 3 a1.toNatClampNeg (v5 + a2)).1 1 7 = (M.1 1 7) from (eI_ne (Nat.ne_of_beq_eq_false rfl) rfl))) ?_
        refine J_iload_n (pc := 44) dX1_makeSlide_44 rfl 1 rfl ?_
        obtain ⟨hk9, h⟩ := inb_e h
        refine J_iast (c := 5) (N := 60) (pc := 45) (fun _ => ja_5) (Nat.le_of_ble_eq_true rfl) hk9 dX1_makeSlide_45 ?_
        refine J_aload_n (pc := 46) dX1_makeSlide_46 rfl 0 rfl ?_
        refine get_1_4 (pc := 47) w_120 dX1_makeSlide_47 ?_
        refine J_aload_n (pc := 50) dX1_makeSlide_50 rfl 0 rfl ?_
        refine get_1_7 (pc := 51) w_126 dX1_makeSlide_51 ?_
        refine J_topi (y := (M.1 1 7)) (Eq.symm (show (upI (upI M 3 a1.toNatClampNeg (v5 + a2)) 5 (M.1 1 7).toNatClampNeg a1).1 1 7 = (M.1 1 7) from (eI_ne (Nat.ne_of_beq_eq_false rfl) (eI_ne (Nat.ne_of_beq_eq_false rfl) rfl)))) ?_
        refine J_iload_n (pc := 54) dX1_makeSlide_54 rfl 2 rfl ?_
        obtain ⟨hk10, h⟩ := inb_e h
        refine J_iast (c := 6) (N := 60) (pc := 55) (fun _ => ja_6) (Nat.le_of_ble_eq_true rfl) hk10 dX1_makeSlide_55 ?_
        refine J_aload_n (pc := 56) dX1_makeSlide_56 rfl 0 rfl ?_
        refine J_dup (pc := 57) dX1_makeSlide_57 rfl ?_
        refine get_1_7 (pc := 58) w_126 dX1_makeSlide_58 ?_
        refine J_topi (y := (M.1 1 7)) (Eq.symm (show (upI (upI (upI M 3 a1.toNatClampNeg (v5 + a2)) 5 (M.1 1 7).toNatClampNeg a1) 6 (M.1 1 7).toNatClampNeg a2).1 1 7 = (M.1 1 7) from (eI_ne (Nat.ne_of_beq_eq_false rfl) (eI_ne (Nat.ne_of_beq_eq_false rfl) (eI_ne (Nat.ne_of_beq_eq_false rfl) rfl))))) ?_
        refine J_iconst (v := (1 : Int32)) (pc := 61) dX1_makeSlide_61 (by decide) ?_
        refine J_iadd (pc := 62) dX1_makeSlide_62 ?_
        refine put_1_7 (pc := 63) w_126 dX1_makeSlide_63 ?_
        refine J_aload_n (pc := 66) dX1_makeSlide_66 rfl 0 rfl ?_
        refine get_1_1 (pc := 67) w_112 dX1_makeSlide_67 ?_
        refine J_iload_n (pc := 70) dX1_makeSlide_70 rfl 1 rfl ?_
        obtain ⟨v11, e12, hk13, h⟩ := ldi_e h
        refine J_iald (c := 3) (N := 6) (pc := 71) ja_3 (Nat.le_of_ble_eq_true rfl) hk13 dX1_makeSlide_71 ?_
        refine J_topi (e12.trans (congrFun (Eq.symm (show (upI (upI (upI (upI M 3 a1.toNatClampNeg (v5 + a2)) 5 (M.1 1 7).toNatClampNeg a1) 6 (M.1 1 7).toNatClampNeg a2) 1 7 ((M.1 1 7) + (1 : Int32))).1 3 = (upI M 3 a1.toNatClampNeg (v5 + a2)).1 3 from (rI_ne (Nat.ne_of_beq_eq_false rfl) (rI_ne (Nat.ne_of_beq_eq_false rfl) (rI_ne (Nat.ne_of_beq_eq_false rfl) (rI_cg rfl)))))) _)) ?_
        cases h
        exact J_ireturn dX1_makeSlide_72 rfl rfl rfl rfl rfl
      · replace h := ifn c4 h
        refine J_iconst (v := (-1 : Int32)) (pc := 24) dX1_makeSlide_24 (by decide) ?_
        cases h
        exact J_ireturn dX1_makeSlide_25 rfl rfl rfl rfl rfl

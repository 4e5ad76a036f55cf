/-! ===== walks of the methods, 11 ===== -/
set_option maxHeartbeats 4000000 in
set_option maxRecDepth 100000 in
theorem kL_X4_leastEnd_L4 {κ : Kx} {E : En} {Q : State → Prop} {ρ : Type} {r : ρ} (M : Wd) (K66 : Int32 → Option ρ) (hK66 : ∀ (x1 : Int32), K66 x1 = some r → J κ E mi_X4_leastEnd Q 0 0 [(1, .int x1)] M 66 []) : ∀ (m : Nat) (x1 : Int32) (x2 : Int32), F_X4_leastEnd_L4 M K66 m x1 x2 = some r → J κ E mi_X4_leastEnd Q 0 0 [(0, .ref 53), (1, .int x1), (2, .int x2)] M 4 [] := by
  intro m
  induction m with
  | zero => intro x1 x2 h; exact (nomatch (show (none : Option ρ) = some r from h))
  | succ m ih =>
    intro x1 x2 h
    unfold F_X4_leastEnd_L4 at h
    refine J_iload_n (pc := 4) dX4_leastEnd_4 rfl 2 rfl ?_
    refine J_iconst (v := (1 : Int32)) (pc := 5) dX4_leastEnd_5 (by decide) ?_
    refine J_iconst (v := (2 : Int32)) (pc := 6) dX4_leastEnd_6 (by decide) ?_
    refine J_aload_n (pc := 7) dX4_leastEnd_7 rfl 0 rfl ?_
    refine J_LS [(0, .ref 53), (1, .int x1), (2, .int x2)] [.ref 53, .int (2 : Int32), .int (1 : Int32), .int x2] rfl rfl ?_
    refine get_53_9 (pc := 8) w_1032 dX4_leastEnd_8 ?_
    refine J_imul (pc := 11) dX4_leastEnd_11 ?_
    refine J_ishl (pc := 12) dX4_leastEnd_12 ?_
    refine J_icmp_ge (pc := 13) (tgt := 66) dX4_leastEnd_13 (by decide) (fun c1 => ?_) (fun c1 => ?_)
    · replace h := ifp c1 h
      refine J_sub [1] rfl ?_
      exact hK66 _ h
    · replace h := ifn c1 h
      refine J_aload_n (pc := 16) dX4_leastEnd_16 rfl 0 rfl ?_
      refine J_iload_n (pc := 17) dX4_leastEnd_17 rfl 2 rfl ?_
      refine J_LS [(0, .ref 53), (1, .int x1), (2, .int x2)] [.int x2, .ref 53] rfl rfl ?_
      refine J_callV (g := mi_X4_isEnd) (ci := 4) (pc := 18) [.int x2] [] mv_X4_isEnd w_1230 (k_X4_isEnd x2 _) rfl (by decide) rfl rfl rfl ⟨⟨Nat.le_of_ble_eq_true rfl, Nat.le_of_ble_eq_true rfl⟩, Nat.le_of_ble_eq_true rfl, Nat.le_of_ble_eq_true rfl⟩ (Nat.le_of_ble_eq_true rfl) dX4_leastEnd_18 (Jk_v rfl rfl fun hok2 => ?_)
      obtain ⟨v3, hv20, h⟩ := obind_e h
      refine J_join [(0, .ref 53), (2, .int x2)] M 59 [.int v3] ?_ (fun hJ => ?_)
      · refine J_istore_n (pc := 59) dX4_leastEnd_59 rfl (Nat.le_of_ble_eq_true rfl) [1, 0, 2] rfl ?_
        obtain ⟨v21, e22, h⟩ := bnd_e h
        refine J_iinc (v := v21) (pc := 60) dX4_leastEnd_60 2 rfl (by rw [e22]; rfl) (Nat.le_of_ble_eq_true rfl) [1, 2, 0] rfl ?_
        refine J_goto (pc := 63) (tgt := 4) dX4_leastEnd_63 (by decide) ?_
        exact ih _ _ h
      · replace h := hv20
        refine J_if_eq (pc := 21) (tgt := 58) dX4_leastEnd_21 (by decide) (fun c4 => ?_) (fun c4 => ?_)
        · replace h := ifp c4 h
          refine J_iload_n (pc := 58) dX4_leastEnd_58 rfl 1 rfl ?_
          cases h
          refine J_sub [0, 2] rfl ?_
          exact hJ
        · replace h := ifn c4 h
          refine J_aload_n (pc := 24) dX4_leastEnd_24 rfl 0 rfl ?_
          refine get_53_11 (pc := 25) w_1034 dX4_leastEnd_25 ?_
          refine J_iload_n (pc := 28) dX4_leastEnd_28 rfl 2 rfl ?_
          refine J_LS [(0, .ref 53), (1, .int x1), (2, .int x2)] [.int x2, .ref 59] rfl rfl ?_
          obtain ⟨v5, e6, hk7, h⟩ := ldi_e h
          refine J_iald (c := 59) (N := 4096) (pc := 29) ja_59 (Nat.le_of_ble_eq_true rfl) hk7 dX4_leastEnd_29 ?_
          refine J_topi e6 ?_
          refine J_iconst (v := (-1 : Int32)) (pc := 30) dX4_leastEnd_30 (by decide) ?_
          refine J_icmp_eq (pc := 31) (tgt := 58) dX4_leastEnd_31 (by decide) (fun c8 => ?_) (fun c8 => ?_)
          · replace h := ifp c8 h
            refine J_iload_n (pc := 58) dX4_leastEnd_58 rfl 1 rfl ?_
            cases h
            refine J_sub [0, 2] rfl ?_
            exact hJ
          · replace h := ifn c8 h
            refine J_iload_n (pc := 34) dX4_leastEnd_34 rfl 1 rfl ?_
            refine J_iconst (v := (-1 : Int32)) (pc := 35) dX4_leastEnd_35 (by decide) ?_
            refine J_icmp_eq (pc := 36) (tgt := 49) dX4_leastEnd_36 (by decide) (fun c9 => ?_) (fun c9 => ?_)
            · replace h := ifp c9 h
              refine J_aload_n (pc := 49) dX4_leastEnd_49 rfl 0 rfl ?_
              refine J_LS [(0, .ref 53), (1, .int x1), (2, .int x2)] [.ref 53] rfl rfl ?_
              refine get_53_11 (pc := 50) w_1034 dX4_leastEnd_50 ?_
              refine J_iload_n (pc := 53) dX4_leastEnd_53 rfl 2 rfl ?_
              obtain ⟨v10, e11, hk12, h⟩ := ldi_e h
              refine J_iald (c := 59) (N := 4096) (pc := 54) ja_59 (Nat.le_of_ble_eq_true rfl) hk12 dX4_leastEnd_54 ?_
              refine J_topi e11 ?_
              refine J_goto (pc := 55) (tgt := 59) dX4_leastEnd_55 (by decide) ?_
              cases h
              refine J_sub [0, 2] rfl ?_
              exact hJ
            · replace h := ifn c9 h
              refine J_aload_n (pc := 39) dX4_leastEnd_39 rfl 0 rfl ?_
              refine J_LS [(0, .ref 53), (1, .int x1), (2, .int x2)] [.ref 53] rfl rfl ?_
              refine get_53_11 (pc := 40) w_1034 dX4_leastEnd_40 ?_
              refine J_iload_n (pc := 43) dX4_leastEnd_43 rfl 2 rfl ?_
              obtain ⟨v13, e14, hk15, h⟩ := ldi_e h
              refine J_iald (c := 59) (N := 4096) (pc := 44) ja_59 (Nat.le_of_ble_eq_true rfl) hk15 dX4_leastEnd_44 ?_
              refine J_topi e14 ?_
              refine J_iload_n (pc := 45) dX4_leastEnd_45 rfl 1 rfl ?_
              refine J_LS [(0, .ref 53), (1, .int x1), (2, .int x2)] [.int x1, .int v13] rfl rfl ?_
              refine J_icmp_ge (pc := 46) (tgt := 58) dX4_leastEnd_46 (by decide) (fun c16 => ?_) (fun c16 => ?_)
              · replace h := ifp c16 h
                refine J_iload_n (pc := 58) dX4_leastEnd_58 rfl 1 rfl ?_
                cases h
                refine J_sub [0, 2] rfl ?_
                exact hJ
              · replace h := ifn c16 h
                refine J_aload_n (pc := 49) dX4_leastEnd_49 rfl 0 rfl ?_
                refine get_53_11 (pc := 50) w_1034 dX4_leastEnd_50 ?_
                refine J_iload_n (pc := 53) dX4_leastEnd_53 rfl 2 rfl ?_
                refine J_LS [(0, .ref 53), (1, .int x1), (2, .int x2)] [.int x2, .ref 59] rfl rfl ?_
                obtain ⟨v17, e18, hk19, h⟩ := ldi_e h
                refine J_iald (c := 59) (N := 4096) (pc := 54) ja_59 (Nat.le_of_ble_eq_true rfl) hk19 dX4_leastEnd_54 ?_
                refine J_topi e18 ?_
                refine J_goto (pc := 55) (tgt := 59) dX4_leastEnd_55 (by decide) ?_
                cases h
                refine J_sub [0, 2] rfl ?_
                exact hJ
set_option maxHeartbeats 4000000 in
set_option maxRecDepth 100000 in
theorem k_X4_leastEnd {E : En} (M : Wd) {r : Int32} (h : F_X4_leastEnd M = some r) : Con E mi_X4_leastEnd [.ref 53] M (.inl (some (.int r))) M := by
  unfold F_X4_leastEnd at h
  refine Con.of (by decide) rfl (Nat.le_of_ble_eq_true rfl) (fun κ => ?_)
  show J κ E mi_X4_leastEnd _ 0 0 [(0, .ref 53)] M 0 []
  refine J_iconst (v := (-1 : Int32)) (pc := 0) dX4_leastEnd_0 (by decide) ?_
  refine J_istore_n (pc := 1) dX4_leastEnd_1 rfl (Nat.le_of_ble_eq_true rfl) [1, 0] rfl ?_
  refine J_iconst (v := (0 : Int32)) (pc := 2) dX4_leastEnd_2 (by decide) ?_
  refine J_istore_n (pc := 3) dX4_leastEnd_3 rfl (Nat.le_of_ble_eq_true rfl) [1, 2, 0] rfl ?_
  refine J_LS [(0, .ref 53), (1, .int (-1 : Int32)), (2, .int (0 : Int32))] [] rfl rfl ?_
  refine kL_X4_leastEnd_L4 _ _ (fun v23 h => ?_) fuelN _ _ h
  refine J_iload_n (pc := 66) dX4_leastEnd_66 rfl 0 rfl ?_
  cases h
  exact J_ireturn dX4_leastEnd_67 rfl rfl rfl rfl rfl
set_option maxHeartbeats 4000000 in
set_option maxRecDepth 100000 in
theorem k_X4_fewest {E : En} (a1 : Int32) (M : Wd) {r : Int32} {M' : Wd} (h : F_X4_fewest a1 M = some (r, M')) : Con E mi_X4_fewest [.ref 53, .int a1] M (.inl (some (.int r))) M' := by
  unfold F_X4_fewest at h
  refine Con.of (by decide) rfl (Nat.le_of_ble_eq_true rfl) (fun κ => ?_)
  show J κ E mi_X4_fewest _ 0 0 [(0, .ref 53), (1, .int a1)] M 0 []
  refine J_aload_n (pc := 0) dX4_fewest_0 rfl 0 rfl ?_
  refine J_aload_n (pc := 1) dX4_fewest_1 rfl 0 rfl ?_
  refine J_LS [(0, .ref 53), (1, .int a1)] [.ref 53, .ref 53] rfl rfl ?_
  refine get_53_3 (pc := 2) w_1026 dX4_fewest_2 ?_
  refine J_iconst (v := (0 : Int32)) (pc := 5) dX4_fewest_5 (by decide) ?_
  refine J_iald (c := 55) (N := 82) (pc := 6) ja_55 (Nat.le_of_ble_eq_true rfl) (vpc rfl) dX4_fewest_6 ?_
  refine J_topi (x := M.1 55 (Int32.toNatClampNeg 0)) (y := (M.1 55 0)) (Eq.symm (a := M.1 55 (Int32.toNatClampNeg 0)) (show M.1 55 0 = (M.1 55 0) from rfl)) ?_
  refine J_aload_n (pc := 7) dX4_fewest_7 rfl 0 rfl ?_
  refine get_53_3 (pc := 8) w_1026 dX4_fewest_8 ?_
  refine J_bipush (v := (19 : Int32)) (pc := 11) dX4_fewest_11 (by decide) ?_
  refine J_iald (c := 55) (N := 82) (pc := 13) ja_55 (Nat.le_of_ble_eq_true rfl) (vpc rfl) dX4_fewest_13 ?_
  refine J_topi (x := M.1 55 (Int32.toNatClampNeg 19)) (y := (M.1 55 19)) (Eq.symm (a := M.1 55 (Int32.toNatClampNeg 19)) (show M.1 55 19 = (M.1 55 19) from rfl)) ?_
  obtain ⟨M1, hc2, h⟩ := obind_e h
  refine J_callV (g := mi_X4_prepares) (ci := 4) (pc := 14) [.int (M.1 55 0), .int (M.1 55 19)] [] mv_X4_prepares w_1218 (k_X4_prepares (M.1 55 0) (M.1 55 19) _ hc2) rfl (by decide) rfl rfl rfl ⟨⟨Nat.le_of_ble_eq_true rfl, Nat.le_of_ble_eq_true rfl⟩, Nat.le_of_ble_eq_true rfl, Nat.le_of_ble_eq_true rfl⟩ (Nat.le_of_ble_eq_true rfl) dX4_fewest_14 (Jk_0 rfl rfl ?_)
  refine J_aload_n (pc := 17) dX4_fewest_17 rfl 0 rfl ?_
  refine J_LS [(0, .ref 53), (1, .int a1)] [.ref 53] rfl rfl ?_
  refine get_53_9 (pc := 18) w_1032 dX4_fewest_18 ?_
  refine J_if_ne (pc := 21) (tgt := 26) dX4_fewest_21 (by decide) (fun c3 => ?_) (fun c3 => ?_)
  · replace h := ifn c3 h
    refine J_aload_n (pc := 26) dX4_fewest_26 rfl 0 rfl ?_
    refine J_aload_n (pc := 27) dX4_fewest_27 rfl 0 rfl ?_
    refine J_LS [(0, .ref 53), (1, .int a1)] [.ref 53, .ref 53] rfl rfl ?_
    obtain ⟨v4, hc5, h⟩ := obind_e h
    refine J_callV (g := mi_X4_codeNow) (ci := 4) (pc := 28) [] [.ref 53] mv_X4_codeNow w_1254 (k_X4_codeNow _ hc5) rfl (by decide) rfl rfl rfl ⟨⟨Nat.le_of_ble_eq_true rfl, Nat.le_of_ble_eq_true rfl⟩, Nat.le_of_ble_eq_true rfl, Nat.le_of_ble_eq_true rfl⟩ (Nat.le_of_ble_eq_true rfl) dX4_fewest_28 (Jk_v rfl rfl fun hok6 => ?_)
    refine J_iload_n (pc := 31) dX4_fewest_31 rfl 1 rfl ?_
    obtain ⟨M7, hc8, h⟩ := obind_e h
    refine J_callV (g := mi_X4_from) (ci := 4) (pc := 32) [.int v4, .int a1] [] mv_X4_from w_1453 (k_X4_from v4 a1 _ hc8) rfl (by decide) rfl rfl rfl ⟨⟨Nat.le_of_ble_eq_true rfl, Nat.le_of_ble_eq_true rfl⟩, Nat.le_of_ble_eq_true rfl, Nat.le_of_ble_eq_true rfl⟩ (Nat.le_of_ble_eq_true rfl) dX4_fewest_32 (Jk_0 rfl rfl ?_)
    refine J_aload_n (pc := 35) dX4_fewest_35 rfl 0 rfl ?_
    refine J_LS [(0, .ref 53), (1, .int a1)] [.ref 53] rfl rfl ?_
    obtain ⟨v9, hc10, h⟩ := obind_e h
    refine J_callV (g := mi_X4_leastEnd) (ci := 4) (pc := 36) [] [] mv_X4_leastEnd w_1457 (k_X4_leastEnd _ hc10) rfl (by decide) rfl rfl rfl ⟨⟨Nat.le_of_ble_eq_true rfl, Nat.le_of_ble_eq_true rfl⟩, Nat.le_of_ble_eq_true rfl, Nat.le_of_ble_eq_true rfl⟩ (Nat.le_of_ble_eq_true rfl) dX4_fewest_36 (Jk_v rfl rfl fun hok11 => ?_)
    cases h
    exact J_ireturn dX4_fewest_39 rfl rfl rfl rfl rfl
  · replace h := ifp c3 h
    refine J_iconst (v := (-1 : Int32)) (pc := 24) dX4_fewest_24 (by decide) ?_
    cases h
    exact J_ireturn dX4_fewest_25 rfl rfl rfl rfl rfl
set_option maxHeartbeats 4000000 in
set_option maxRecDepth 100000 in
theorem k_X4_fewestEnds {E : En} (M : Wd) {r : Int32} {M' : Wd} (h : F_X4_fewestEnds M = some (r, M')) : Con E mi_X4_fewestEnds [.ref 53] M (.inl (some (.int r))) M' := by
  unfold F_X4_fewestEnds at h
  refine Con.of (by decide) rfl (Nat.le_of_ble_eq_true rfl) (fun κ => ?_)
  show J κ E mi_X4_fewestEnds _ 0 0 [(0, .ref 53)] M 0 []
  refine J_aload_n (pc := 0) dX4_fewestEnds_0 rfl 0 rfl ?_
  refine J_aload_n (pc := 1) dX4_fewestEnds_1 rfl 0 rfl ?_
  refine J_LS [(0, .ref 53)] [.ref 53, .ref 53] rfl rfl ?_
  refine get_53_3 (pc := 2) w_1026 dX4_fewestEnds_2 ?_
  refine J_iconst (v := (0 : Int32)) (pc := 5) dX4_fewestEnds_5 (by decide) ?_
  refine J_iald (c := 55) (N := 82) (pc := 6) ja_55 (Nat.le_of_ble_eq_true rfl) (vpc rfl) dX4_fewestEnds_6 ?_
  refine J_topi (x := M.1 55 (Int32.toNatClampNeg 0)) (y := (M.1 55 0)) (Eq.symm (a := M.1 55 (Int32.toNatClampNeg 0)) (show M.1 55 0 = (M.1 55 0) from rfl)) ?_
  refine J_aload_n (pc := 7) dX4_fewestEnds_7 rfl 0 rfl ?_
  refine get_53_3 (pc := 8) w_1026 dX4_fewestEnds_8 ?_
  refine J_bipush (v := (19 : Int32)) (pc := 11) dX4_fewestEnds_11 (by decide) ?_
  refine J_iald (c := 55) (N := 82) (pc := 13) ja_55 (Nat.le_of_ble_eq_true rfl) (vpc rfl) dX4_fewestEnds_13 ?_
  refine J_topi (x := M.1 55 (Int32.toNatClampNeg 19)) (y := (M.1 55 19)) (Eq.symm (a := M.1 55 (Int32.toNatClampNeg 19)) (show M.1 55 19 = (M.1 55 19) from rfl)) ?_
  obtain ⟨M1, hc2, h⟩ := obind_e h
  refine J_callV (g := mi_X4_prepares) (ci := 4) (pc := 14) [.int (M.1 55 0), .int (M.1 55 19)] [] mv_X4_prepares w_1218 (k_X4_prepares (M.1 55 0) (M.1 55 19) _ hc2) rfl (by decide) rfl rfl rfl ⟨⟨Nat.le_of_ble_eq_true rfl, Nat.le_of_ble_eq_true rfl⟩, Nat.le_of_ble_eq_true rfl, Nat.le_of_ble_eq_true rfl⟩ (Nat.le_of_ble_eq_true rfl) dX4_fewestEnds_14 (Jk_0 rfl rfl ?_)
  refine J_aload_n (pc := 17) dX4_fewestEnds_17 rfl 0 rfl ?_
  refine J_LS [(0, .ref 53)] [.ref 53] rfl rfl ?_
  obtain ⟨M3, hc4, h⟩ := obind_e h
  refine J_callV (g := mi_X4_fromEnds) (ci := 4) (pc := 18) [] [] mv_X4_fromEnds w_1222 (k_X4_fromEnds _ hc4) rfl (by decide) rfl rfl rfl ⟨⟨Nat.le_of_ble_eq_true rfl, Nat.le_of_ble_eq_true rfl⟩, Nat.le_of_ble_eq_true rfl, Nat.le_of_ble_eq_true rfl⟩ (Nat.le_of_ble_eq_true rfl) dX4_fewestEnds_18 (Jk_0 rfl rfl ?_)
  refine J_aload_n (pc := 21) dX4_fewestEnds_21 rfl 0 rfl ?_
  refine get_53_9 (pc := 22) w_1032 dX4_fewestEnds_22 ?_
  refine J_if_ne (pc := 25) (tgt := 32) dX4_fewestEnds_25 (by decide) (fun c5 => ?_) (fun c5 => ?_)
  · replace h := ifn c5 h
    refine J_aload_n (pc := 32) dX4_fewestEnds_32 rfl 0 rfl ?_
    refine J_LS [(0, .ref 53)] [.ref 53] rfl rfl ?_
    refine get_53_11 (pc := 33) w_1034 dX4_fewestEnds_33 ?_
    refine J_aload_n (pc := 36) dX4_fewestEnds_36 rfl 0 rfl ?_
    obtain ⟨v6, hc7, h⟩ := obind_e h
    refine J_callV (g := mi_X4_codeNow) (ci := 4) (pc := 37) [] [.ref 59] mv_X4_codeNow w_1254 (k_X4_codeNow _ hc7) rfl (by decide) rfl rfl rfl ⟨⟨Nat.le_of_ble_eq_true rfl, Nat.le_of_ble_eq_true rfl⟩, Nat.le_of_ble_eq_true rfl, Nat.le_of_ble_eq_true rfl⟩ (Nat.le_of_ble_eq_true rfl) dX4_fewestEnds_37 (Jk_v rfl rfl fun hok8 => ?_)
    obtain ⟨v9, e10, hk11, h⟩ := ldi_e h
    refine J_iald (c := 59) (N := 4096) (pc := 40) ja_59 (Nat.le_of_ble_eq_true rfl) hk11 dX4_fewestEnds_40 ?_
    refine J_topi e10 ?_
    cases h
    exact J_ireturn dX4_fewestEnds_41 rfl rfl rfl rfl rfl
  · replace h := ifp c5 h
    refine J_iconst (v := (-1 : Int32)) (pc := 28) dX4_fewestEnds_28 (by decide) ?_
    refine J_goto (pc := 29) (tgt := 41) dX4_fewestEnds_29 (by decide) ?_
    cases h
    exact J_ireturn dX4_fewestEnds_41 rfl rfl rfl rfl rfl
set_option maxHeartbeats 4000000 in
set_option maxRecDepth 100000 in
theorem k_X4_cheapens {E : En} (a1 : Int32) (a2 : Int32) (M : Wd) {M' : Wd} (h : F_X4_cheapens a1 a2 M = some M') : Con E mi_X4_cheapens [.ref 53, .int a1, .int a2] M (.inl none) M' := by
  unfold F_X4_cheapens at h
  refine Con.of (by decide) rfl (Nat.le_of_ble_eq_true rfl) (fun κ => ?_)
  show J κ E mi_X4_cheapens _ 0 0 [(0, .ref 53), (1, .int a1), (2, .int a2)] M 0 []
  refine J_aload_n (pc := 0) dX4_cheapens_0 rfl 0 rfl ?_
  refine get_53_11 (pc := 1) w_1034 dX4_cheapens_1 ?_
  refine J_iload_n (pc := 4) dX4_cheapens_4 rfl 1 rfl ?_
  refine J_LS [(0, .ref 53), (1, .int a1), (2, .int a2)] [.int a1, .ref 59] rfl rfl ?_
  obtain ⟨v1, e2, hk3, h⟩ := ldi_e h
  refine J_iald (c := 59) (N := 4096) (pc := 5) ja_59 (Nat.le_of_ble_eq_true rfl) hk3 dX4_cheapens_5 ?_
  refine J_topi e2 ?_
  refine J_iconst (v := (-1 : Int32)) (pc := 6) dX4_cheapens_6 (by decide) ?_
  refine J_icmp_eq (pc := 7) (tgt := 20) dX4_cheapens_7 (by decide) (fun c4 => ?_) (fun c4 => ?_)
  · replace h := ifp c4 h
    refine J_aload_n (pc := 20) dX4_cheapens_20 rfl 0 rfl ?_
    refine get_53_11 (pc := 21) w_1034 dX4_cheapens_21 ?_
    refine J_iload_n (pc := 24) dX4_cheapens_24 rfl 1 rfl ?_
    refine J_LS [(0, .ref 53), (1, .int a1), (2, .int a2)] [.int a1, .ref 59] rfl rfl ?_
    refine J_iload_n (pc := 25) dX4_cheapens_25 rfl 2 rfl ?_
    obtain ⟨hk5, h⟩ := inb_e h
    refine J_iast (c := 59) (N := 4096) (pc := 26) (fun _ => ja_59) (Nat.le_of_ble_eq_true rfl) hk5 dX4_cheapens_26 ?_
    refine J_aload_n (pc := 27) dX4_cheapens_27 rfl 0 rfl ?_
    refine J_LS [(0, .ref 53), (1, .int a1), (2, .int a2)] [.ref 53] rfl rfl ?_
    refine get_53_13 (pc := 28) w_1036 dX4_cheapens_28 ?_
    refine J_iload_n (pc := 31) dX4_cheapens_31 rfl 1 rfl ?_
    obtain ⟨v6, e7, hk8, h⟩ := ldi_e h
    refine J_zald (pc := 32) hk8 dX4_cheapens_32 ?_
    refine J_topi (e7.trans (congrFun (Eq.symm (show (upI M 59 a1.toNatClampNeg a2).1 61 = M.1 61 from (rI_ne (Nat.ne_of_beq_eq_false rfl) rfl))) _)) ?_
    refine J_if_ne (pc := 33) (tgt := 67) dX4_cheapens_33 (by decide) (fun c9 => ?_) (fun c9 => ?_)
    · replace h := ifn c9 h
      cases h
      exact J_return dX4_cheapens_67 rfl rfl rfl rfl rfl
    · replace h := ifp c9 h
      refine J_aload_n (pc := 36) dX4_cheapens_36 rfl 0 rfl ?_
      refine J_LS [(0, .ref 53), (1, .int a1), (2, .int a2)] [.ref 53] rfl rfl ?_
      refine get_53_13 (pc := 37) w_1036 dX4_cheapens_37 ?_
      refine J_iload_n (pc := 40) dX4_cheapens_40 rfl 1 rfl ?_
      refine J_iconst (v := (1 : Int32)) (pc := 41) dX4_cheapens_41 (by decide) ?_
      obtain ⟨hk10, h⟩ := inb_e h
      refine J_zast (pc := 42) (vp_b (Or.inr rfl)) hk10 dX4_cheapens_42 ?_
      refine J_aload_n (pc := 43) dX4_cheapens_43 rfl 0 rfl ?_
      refine J_LS [(0, .ref 53), (1, .int a1), (2, .int a2)] [.ref 53] rfl rfl ?_
      refine get_53_12 (pc := 44) w_1035 dX4_cheapens_44 ?_
      refine J_aload_n (pc := 47) dX4_cheapens_47 rfl 0 rfl ?_
      refine get_53_14 (pc := 48) w_1037 dX4_cheapens_48 ?_
      refine J_topi (y := (M.1 53 14)) (Eq.symm (show (upI (upI M 59 a1.toNatClampNeg a2) 61 a1.toNatClampNeg (1 : Int32)).1 53 14 = (M.1 53 14) from (eI_ne (Nat.ne_of_beq_eq_false rfl) (eI_ne (Nat.ne_of_beq_eq_false rfl) rfl)))) ?_
      refine J_sipush (v := (4096 : Int32)) (pc := 51) dX4_cheapens_51 (by decide) ?_
      refine J_irem (pc := 54) dX4_cheapens_54 (by decide) ?_
      refine J_iload_n (pc := 55) dX4_cheapens_55 rfl 1 rfl ?_
      refine J_LS [(0, .ref 53), (1, .int a1), (2, .int a2)] [.int a1, .int ((M.1 53 14) - (M.1 53 14) / (4096 : Int32) * (4096 : Int32)), .ref 60] rfl rfl ?_
      obtain ⟨hk11, h⟩ := inb_e h
      refine J_iast (c := 60) (N := 4096) (pc := 56) (fun _ => ja_60) (Nat.le_of_ble_eq_true rfl) hk11 dX4_cheapens_56 ?_
      refine J_aload_n (pc := 57) dX4_cheapens_57 rfl 0 rfl ?_
      refine J_dup (pc := 58) dX4_cheapens_58 rfl ?_
      refine get_53_14 (pc := 59) w_1037 dX4_cheapens_59 ?_
      refine J_topi (y := (M.1 53 14)) (Eq.symm (show (upI (upI (upI M 59 a1.toNatClampNeg a2) 61 a1.toNatClampNeg (1 : Int32)) 60 ((M.1 53 14) - (M.1 53 14) / (4096 : Int32) * (4096 : Int32)).toNatClampNeg a1).1 53 14 = (M.1 53 14) from (eI_ne (Nat.ne_of_beq_eq_false rfl) (eI_ne (Nat.ne_of_beq_eq_false rfl) (eI_ne (Nat.ne_of_beq_eq_false rfl) rfl))))) ?_
      refine J_iconst (v := (1 : Int32)) (pc := 62) dX4_cheapens_62 (by decide) ?_
      refine J_iadd (pc := 63) dX4_cheapens_63 ?_
      refine put_53_14 (pc := 64) w_1037 dX4_cheapens_64 ?_
      cases h
      exact J_return dX4_cheapens_67 rfl rfl rfl rfl rfl
  · replace h := ifn c4 h
    refine J_iload_n (pc := 10) dX4_cheapens_10 rfl 2 rfl ?_
    refine J_aload_n (pc := 11) dX4_cheapens_11 rfl 0 rfl ?_
    refine J_LS [(0, .ref 53), (1, .int a1), (2, .int a2)] [.ref 53, .int a2] rfl rfl ?_
    refine get_53_11 (pc := 12) w_1034 dX4_cheapens_12 ?_
    refine J_iload_n (pc := 15) dX4_cheapens_15 rfl 1 rfl ?_
    obtain ⟨v12, e13, hk14, h⟩ := ldi_e h
    refine J_iald (c := 59) (N := 4096) (pc := 16) ja_59 (Nat.le_of_ble_eq_true rfl) hk14 dX4_cheapens_16 ?_
    refine J_topi e13 ?_
    refine J_icmp_ge (pc := 17) (tgt := 67) dX4_cheapens_17 (by decide) (fun c15 => ?_) (fun c15 => ?_)
    · replace h := ifp c15 h
      cases h
      exact J_return dX4_cheapens_67 rfl rfl rfl rfl rfl
    · replace h := ifn c15 h
      refine J_aload_n (pc := 20) dX4_cheapens_20 rfl 0 rfl ?_
      refine J_LS [(0, .ref 53), (1, .int a1), (2, .int a2)] [.ref 53] rfl rfl ?_
      refine get_53_11 (pc := 21) w_1034 dX4_cheapens_21 ?_
      refine J_iload_n (pc := 24) dX4_cheapens_24 rfl 1 rfl ?_
      refine J_iload_n (pc := 25) dX4_cheapens_25 rfl 2 rfl ?_
      refine J_LS [(0, .ref 53), (1, .int a1), (2, .int a2)] [.int a2, .int a1, .ref 59] rfl rfl ?_
      obtain ⟨hk16, h⟩ := inb_e h
      refine J_iast (c := 59) (N := 4096) (pc := 26) (fun _ => ja_59) (Nat.le_of_ble_eq_true rfl) hk16 dX4_cheapens_26 ?_
      refine J_aload_n (pc := 27) dX4_cheapens_27 rfl 0 rfl ?_
      refine get_53_13 (pc := 28) w_1036 dX4_cheapens_28 ?_
      refine J_iload_n (pc := 31) dX4_cheapens_31 rfl 1 rfl ?_
      refine J_LS [(0, .ref 53), (1, .int a1), (2, .int a2)] [.int a1, .ref 61] rfl rfl ?_
      obtain ⟨v17, e18, hk19, h⟩ := ldi_e h
      refine J_zald (pc := 32) hk19 dX4_cheapens_32 ?_
      refine J_topi (e18.trans (congrFun (Eq.symm (show (upI M 59 a1.toNatClampNeg a2).1 61 = M.1 61 from (rI_ne (Nat.ne_of_beq_eq_false rfl) rfl))) _)) ?_
      refine J_if_ne (pc := 33) (tgt := 67) dX4_cheapens_33 (by decide) (fun c20 => ?_) (fun c20 => ?_)
      · replace h := ifn c20 h
        cases h
        exact J_return dX4_cheapens_67 rfl rfl rfl rfl rfl
      · replace h := ifp c20 h
        refine J_aload_n (pc := 36) dX4_cheapens_36 rfl 0 rfl ?_
        refine get_53_13 (pc := 37) w_1036 dX4_cheapens_37 ?_
        refine J_iload_n (pc := 40) dX4_cheapens_40 rfl 1 rfl ?_
        refine J_LS [(0, .ref 53), (1, .int a1), (2, .int a2)] [.int a1, .ref 61] rfl rfl ?_
        refine J_iconst (v := (1 : Int32)) (pc := 41) dX4_cheapens_41 (by decide) ?_
        obtain ⟨hk21, h⟩ := inb_e h
        refine J_zast (pc := 42) (vp_b (Or.inr rfl)) hk21 dX4_cheapens_42 ?_
        refine J_aload_n (pc := 43) dX4_cheapens_43 rfl 0 rfl ?_
        refine get_53_12 (pc := 44) w_1035 dX4_cheapens_44 ?_
        refine J_aload_n (pc := 47) dX4_cheapens_47 rfl 0 rfl ?_
        refine J_LS [(0, .ref 53), (1, .int a1), (2, .int a2)] [.ref 53, .ref 60] rfl rfl ?_
        refine get_53_14 (pc := 48) w_1037 dX4_cheapens_48 ?_
        refine J_topi (y := (M.1 53 14)) (Eq.symm (show (upI (upI M 59 a1.toNatClampNeg a2) 61 a1.toNatClampNeg (1 : Int32)).1 53 14 = (M.1 53 14) from (eI_ne (Nat.ne_of_beq_eq_false rfl) (eI_ne (Nat.ne_of_beq_eq_false rfl) rfl)))) ?_
        refine J_sipush (v := (4096 : Int32)) (pc := 51) dX4_cheapens_51 (by decide) ?_
        refine J_irem (pc := 54) dX4_cheapens_54 (by decide) ?_
        refine J_iload_n (pc := 55) dX4_cheapens_55 rfl 1 rfl ?_
        obtain ⟨hk22, h⟩ := inb_e h
        refine J_iast (c := 60) (N := 4096) (pc := 56) (fun _ => ja_60) (Nat.le_of_ble_eq_true rfl) hk22 dX4_cheapens_56 ?_
        refine J_aload_n (pc := 57) dX4_cheapens_57 rfl 0 rfl ?_
        refine J_LS [(0, .ref 53), (1, .int a1), (2, .int a2)] [.ref 53] rfl rfl ?_
        refine J_dup (pc := 58) dX4_cheapens_58 rfl ?_
        refine get_53_14 (pc := 59) w_1037 dX4_cheapens_59 ?_
        refine J_topi (y := (M.1 53 14)) (Eq.symm (show (upI (upI (upI M 59 a1.toNatClampNeg a2) 61 a1.toNatClampNeg (1 : Int32)) 60 ((M.1 53 14) - (M.1 53 14) / (4096 : Int32) * (4096 : Int32)).toNatClampNeg a1).1 53 14 = (M.1 53 14) from (eI_ne (Nat.ne_of_beq_eq_false rfl) (eI_ne (Nat.ne_of_beq_eq_false rfl) (eI_ne (Nat.ne_of_beq_eq_false rfl) rfl))))) ?_
        refine J_iconst (v := (1 : Int32)) (pc := 62) dX4_cheapens_62 (by decide) ?_
        refine J_iadd (pc := 63) dX4_cheapens_63 ?_
        refine put_53_14 (pc := 64) w_1037 dX4_cheapens_64 ?_
        cases h
        exact J_return dX4_cheapens_67 rfl rfl rfl rfl rfl
set_option maxHeartbeats 4000000 in
set_option maxRecDepth 100000 in
theorem k_X4_cheaper {E : En} (a1 : Int32) (a2 : Int32) (a3 : Int32) (M : Wd) {M' : Wd} (h : F_X4_cheaper a1 a2 a3 M = some M') : Con E mi_X4_cheaper [.ref 53, .int a1, .int a2, .int a3] M (.inl none) M' := by
  unfold F_X4_cheaper at h
  refine Con.of (by decide) rfl (Nat.le_of_ble_eq_true rfl) (fun κ => ?_)
  show J κ E mi_X4_cheaper _ 0 0 [(0, .ref 53), (1, .int a1), (2, .int a2), (3, .int a3)] M 0 []
  refine J_iload_n (pc := 0) dX4_cheaper_0 rfl 1 rfl ?_
  refine J_iconst (v := (2 : Int32)) (pc := 1) dX4_cheaper_1 (by decide) ?_
  refine J_iload_n (pc := 2) dX4_cheaper_2 rfl 2 rfl ?_
  refine J_LS [(0, .ref 53), (1, .int a1), (2, .int a2), (3, .int a3)] [.int a2, .int (2 : Int32), .int a1] rfl rfl ?_
  refine J_imul (pc := 3) dX4_cheaper_3 ?_
  refine J_ishr (pc := 4) dX4_cheaper_4 ?_
  refine J_iconst (v := (3 : Int32)) (pc := 5) dX4_cheaper_5 (by decide) ?_
  refine J_iand (pc := 6) dX4_cheaper_6 ?_
  obtain ⟨v1, e2, h⟩ := bnd_e h
  refine J_topi e2 ?_
  refine J_istore (pc := 7) dX4_cheaper_7 (Nat.le_of_ble_eq_true rfl) [1, 2, 3, 4, 0] rfl ?_
  refine J_aload_n (pc := 9) dX4_cheaper_9 rfl 0 rfl ?_
  refine J_LS [(0, .ref 53), (1, .int a1), (2, .int a2), (3, .int a3), (4, .int v1)] [.ref 53] rfl rfl ?_
  refine J_iload_n (pc := 10) dX4_cheaper_10 rfl 1 rfl ?_
  obtain ⟨v3, hc4, h⟩ := obind_e h
  refine J_callV (g := mi_X4_setOf) (ci := 4) (pc := 11) [.int a1] [] mv_X4_setOf w_1250 (k_X4_setOf a1 _ hc4) rfl (by decide) rfl rfl rfl ⟨⟨Nat.le_of_ble_eq_true rfl, Nat.le_of_ble_eq_true rfl⟩, Nat.le_of_ble_eq_true rfl, Nat.le_of_ble_eq_true rfl⟩ (Nat.le_of_ble_eq_true rfl) dX4_cheaper_11 (Jk_v rfl rfl fun hok5 => ?_)
  refine J_aload_n (pc := 14) dX4_cheaper_14 rfl 0 rfl ?_
  refine J_LS [(0, .ref 53), (1, .int a1), (2, .int a2), (3, .int a3), (4, .int v1)] [.ref 53, .int v3] rfl rfl ?_
  refine get_53_8 (pc := 15) w_1031 dX4_cheaper_15 ?_
  refine J_iconst (v := (4 : Int32)) (pc := 18) dX4_cheaper_18 (by decide) ?_
  refine J_iload_n (pc := 19) dX4_cheaper_19 rfl 2 rfl ?_
  refine J_imul (pc := 20) dX4_cheaper_20 ?_
  refine J_iload (pc := 21) dX4_cheaper_21 4 rfl ?_
  refine J_LS [(0, .ref 53), (1, .int a1), (2, .int a2), (3, .int a3), (4, .int v1)] [.int v1, .int ((4 : Int32) * a2), .ref 58, .int v3] rfl rfl ?_
  refine J_iadd (pc := 23) dX4_cheaper_23 ?_
  obtain ⟨v6, e7, hk8, h⟩ := ldi_e h
  refine J_iald (c := 58) (N := 24) (pc := 24) ja_58 (Nat.le_of_ble_eq_true rfl) hk8 dX4_cheaper_24 ?_
  refine J_topi e7 ?_
  refine J_iconst (v := (-1 : Int32)) (pc := 25) dX4_cheaper_25 (by decide) ?_
  refine J_ixor (pc := 26) dX4_cheaper_26 ?_
  refine J_iand (pc := 27) dX4_cheaper_27 ?_
  obtain ⟨v9, e10, h⟩ := bnd_e h
  refine J_topi e10 ?_
  refine J_istore (pc := 28) dX4_cheaper_28 (Nat.le_of_ble_eq_true rfl) [1, 2, 3, 4, 5, 0] rfl ?_
  refine J_iload (pc := 30) dX4_cheaper_30 4 rfl ?_
  refine J_LS [(0, .ref 53), (1, .int a1), (2, .int a2), (3, .int a3), (4, .int v1), (5, .int v9)] [.int v1] rfl rfl ?_
  refine J_iload_n (pc := 32) dX4_cheaper_32 rfl 3 rfl ?_
  refine J_iadd (pc := 33) dX4_cheaper_33 ?_
  obtain ⟨v11, e12, h⟩ := bnd_e h
  refine J_topi e12 ?_
  refine J_istore (pc := 34) dX4_cheaper_34 (Nat.le_of_ble_eq_true rfl) [1, 2, 3, 4, 5, 6, 0] rfl ?_
  refine J_LS [(0, .ref 53), (1, .int a1), (2, .int a2), (3, .int a3), (4, .int v1), (5, .int v9), (6, .int v11)] [] rfl rfl ?_
  refine J_iload (pc := 36) dX4_cheaper_36 6 rfl ?_
  refine J_i2l (pc := 38) dX4_cheaper_38 ?_
  refine J_lconst (v := (0 : Int64)) (pc := 39) dX4_cheaper_39 (by decide) ?_
  refine J_ldc2 (pc := 40) w_1108 dX4_cheaper_40 ?_
  refine J_callS (g := mi_X4_in) (pc := 43) [.long v11.toInt64, .long (0 : Int64), .long (3 : Int64)] [] ms_X4_in w_1104 (k_X4_in v11.toInt64 (0 : Int64) (3 : Int64) _) rfl rfl ⟨⟨Nat.le_of_ble_eq_true rfl, Nat.le_of_ble_eq_true rfl⟩, Nat.le_of_ble_eq_true rfl, Nat.le_of_ble_eq_true rfl⟩ (Nat.le_of_ble_eq_true rfl) dX4_cheaper_43 (Jk_v rfl rfl fun hok13 => ?_)
  refine J_if_eq (pc := 46) (tgt := 116) dX4_cheaper_46 (by decide) (fun c14 => ?_) (fun c14 => ?_)
  · replace h := ifp c14 h
    cases h
    exact J_return dX4_cheaper_116 rfl rfl rfl rfl rfl
  · replace h := ifn c14 h
    refine J_aload_n (pc := 49) dX4_cheaper_49 rfl 0 rfl ?_
    refine J_LS [(0, .ref 53), (1, .int a1), (2, .int a2), (3, .int a3), (4, .int v1), (5, .int v9), (6, .int v11)] [.ref 53] rfl rfl ?_
    refine get_53_8 (pc := 50) w_1031 dX4_cheaper_50 ?_
    refine J_iconst (v := (4 : Int32)) (pc := 53) dX4_cheaper_53 (by decide) ?_
    refine J_iload_n (pc := 54) dX4_cheaper_54 rfl 2 rfl ?_
    refine J_imul (pc := 55) dX4_cheaper_55 ?_
    refine J_iload (pc := 56) dX4_cheaper_56 6 rfl ?_
    refine J_LS [(0, .ref 53), (1, .int a1), (2, .int a2), (3, .int a3), (4, .int v1), (5, .int v9), (6, .int v11)] [.int v11, .int ((4 : Int32) * a2), .ref 58] rfl rfl ?_
    refine J_iadd (pc := 58) dX4_cheaper_58 ?_
    obtain ⟨v15, e16, hk17, h⟩ := ldi_e h
    refine J_iald (c := 58) (N := 24) (pc := 59) ja_58 (Nat.le_of_ble_eq_true rfl) hk17 dX4_cheaper_59 ?_
    refine J_topi e16 ?_
    refine J_if_eq (pc := 60) (tgt := 116) dX4_cheaper_60 (by decide) (fun c18 => ?_) (fun c18 => ?_)
    · replace h := ifp c18 h
      cases h
      exact J_return dX4_cheaper_116 rfl rfl rfl rfl rfl
    · replace h := ifn c18 h
      refine J_aload_n (pc := 63) dX4_cheaper_63 rfl 0 rfl ?_
      refine get_53_8 (pc := 64) w_1031 dX4_cheaper_64 ?_
      refine J_iconst (v := (4 : Int32)) (pc := 67) dX4_cheaper_67 (by decide) ?_
      refine J_iload_n (pc := 68) dX4_cheaper_68 rfl 2 rfl ?_
      refine J_LS [(0, .ref 53), (1, .int a1), (2, .int a2), (3, .int a3), (4, .int v1), (5, .int v9), (6, .int v11)] [.int a2, .int (4 : Int32), .ref 58] rfl rfl ?_
      refine J_imul (pc := 69) dX4_cheaper_69 ?_
      refine J_iload (pc := 70) dX4_cheaper_70 6 rfl ?_
      refine J_iadd (pc := 72) dX4_cheaper_72 ?_
      obtain ⟨v19, e20, hk21, h⟩ := ldi_e h
      refine J_iald (c := 58) (N := 24) (pc := 73) ja_58 (Nat.le_of_ble_eq_true rfl) hk21 dX4_cheaper_73 ?_
      refine J_topi e20 ?_
      refine J_iload (pc := 74) dX4_cheaper_74 5 rfl ?_
      refine J_LS [(0, .ref 53), (1, .int a1), (2, .int a2), (3, .int a3), (4, .int v1), (5, .int v9), (6, .int v11)] [.int v9, .int v19] rfl rfl ?_
      refine J_iand (pc := 76) dX4_cheaper_76 ?_
      refine J_if_ne (pc := 77) (tgt := 116) dX4_cheaper_77 (by decide) (fun c22 => ?_) (fun c22 => ?_)
      · replace h := ifn c22 h
        cases h
        exact J_return dX4_cheaper_116 rfl rfl rfl rfl rfl
      · replace h := ifp c22 h
        refine J_aload_n (pc := 80) dX4_cheaper_80 rfl 0 rfl ?_
        refine J_iload_n (pc := 81) dX4_cheaper_81 rfl 1 rfl ?_
        refine J_LS [(0, .ref 53), (1, .int a1), (2, .int a2), (3, .int a3), (4, .int v1), (5, .int v9), (6, .int v11)] [.int a1, .ref 53] rfl rfl ?_
        refine J_iconst (v := (3 : Int32)) (pc := 82) dX4_cheaper_82 (by decide) ?_
        refine J_iconst (v := (2 : Int32)) (pc := 83) dX4_cheaper_83 (by decide) ?_
        refine J_iload_n (pc := 84) dX4_cheaper_84 rfl 2 rfl ?_
        refine J_imul (pc := 85) dX4_cheaper_85 ?_
        refine J_ishl (pc := 86) dX4_cheaper_86 ?_
        refine J_iconst (v := (-1 : Int32)) (pc := 87) dX4_cheaper_87 (by decide) ?_
        refine J_ixor (pc := 88) dX4_cheaper_88 ?_
        refine J_iand (pc := 89) dX4_cheaper_89 ?_
        refine J_iload (pc := 90) dX4_cheaper_90 6 rfl ?_
        refine J_LS [(0, .ref 53), (1, .int a1), (2, .int a2), (3, .int a3), (4, .int v1), (5, .int v9), (6, .int v11)] [.int v11, .int (a1 &&& (((3 : Int32) <<< (((2 : Int32) * a2) &&& 31)) ^^^ (-1 : Int32))), .ref 53] rfl rfl ?_
        refine J_iconst (v := (2 : Int32)) (pc := 92) dX4_cheaper_92 (by decide) ?_
        refine J_iload_n (pc := 93) dX4_cheaper_93 rfl 2 rfl ?_
        refine J_imul (pc := 94) dX4_cheaper_94 ?_
        refine J_ishl (pc := 95) dX4_cheaper_95 ?_
        refine J_ior (pc := 96) dX4_cheaper_96 ?_
        refine J_aload_n (pc := 97) dX4_cheaper_97 rfl 0 rfl ?_
        refine J_LS [(0, .ref 53), (1, .int a1), (2, .int a2), (3, .int a3), (4, .int v1), (5, .int v9), (6, .int v11)] [.ref 53, .int ((a1 &&& (((3 : Int32) <<< (((2 : Int32) * a2) &&& 31)) ^^^ (-1 : Int32))) ||| (v11 <<< (((2 : Int32) * a2) &&& 31))), .ref 53] rfl rfl ?_
        refine get_53_11 (pc := 98) w_1034 dX4_cheaper_98 ?_
        refine J_iload_n (pc := 101) dX4_cheaper_101 rfl 1 rfl ?_
        obtain ⟨v23, e24, hk25, h⟩ := ldi_e h
        refine J_iald (c := 59) (N := 4096) (pc := 102) ja_59 (Nat.le_of_ble_eq_true rfl) hk25 dX4_cheaper_102 ?_
        refine J_topi e24 ?_
        refine J_aload_n (pc := 103) dX4_cheaper_103 rfl 0 rfl ?_
        refine J_LS [(0, .ref 53), (1, .int a1), (2, .int a2), (3, .int a3), (4, .int v1), (5, .int v9), (6, .int v11)] [.ref 53, .int v23, .int ((a1 &&& (((3 : Int32) <<< (((2 : Int32) * a2) &&& 31)) ^^^ (-1 : Int32))) ||| (v11 <<< (((2 : Int32) * a2) &&& 31))), .ref 53] rfl rfl ?_
        refine get_53_3 (pc := 104) w_1026 dX4_cheaper_104 ?_
        refine J_bipush (v := (13 : Int32)) (pc := 107) dX4_cheaper_107 (by decide) ?_
        refine J_iload_n (pc := 109) dX4_cheaper_109 rfl 2 rfl ?_
        refine J_iadd (pc := 110) dX4_cheaper_110 ?_
        obtain ⟨v26, e27, hk28, h⟩ := ldi_e h
        refine J_iald (c := 55) (N := 82) (pc := 111) ja_55 (Nat.le_of_ble_eq_true rfl) hk28 dX4_cheaper_111 ?_
        refine J_topi e27 ?_
        refine J_iadd (pc := 112) dX4_cheaper_112 ?_
        obtain ⟨M29, hc30, h⟩ := obind_e h
        refine J_callV (g := mi_X4_cheapens) (ci := 4) (pc := 113) [.int ((a1 &&& (((3 : Int32) <<< (((2 : Int32) * a2) &&& 31)) ^^^ (-1 : Int32))) ||| (v11 <<< (((2 : Int32) * a2) &&& 31))), .int (v23 + v26)] [] mv_X4_cheapens w_1481 (k_X4_cheapens ((a1 &&& (((3 : Int32) <<< (((2 : Int32) * a2) &&& 31)) ^^^ (-1 : Int32))) ||| (v11 <<< (((2 : Int32) * a2) &&& 31))) (v23 + v26) _ hc30) rfl (by decide) rfl rfl rfl ⟨⟨Nat.le_of_ble_eq_true rfl, Nat.le_of_ble_eq_true rfl⟩, Nat.le_of_ble_eq_true rfl, Nat.le_of_ble_eq_true rfl⟩ (Nat.le_of_ble_eq_true rfl) dX4_cheaper_113 (Jk_0 rfl rfl ?_)
        cases h
        exact J_return dX4_cheaper_116 rfl rfl rfl rfl rfl
set_option maxHeartbeats 4000000 in
set_option maxRecDepth 100000 in
theorem kL_X4_cheapest_L32 {κ : Kx} {E : En} {Q : State → Prop} {ρ : Type} {r : ρ} (K52 : Wd → Option ρ) (hK52 : ∀ (M : Wd), K52 M = some r → J κ E mi_X4_cheapest Q 0 0 [(0, .ref 53)] M 52 []) : ∀ (m : Nat) (x1 : Int32) (M : Wd), F_X4_cheapest_L32 K52 m x1 M = some r → J κ E mi_X4_cheapest Q 0 0 [(0, .ref 53), (1, .int x1)] M 32 [] := by
  intro m
  induction m with
  | zero => intro x1 M h; exact (nomatch (show (none : Option ρ) = some r from h))
  | succ m ih =>
    intro x1 M h
    unfold F_X4_cheapest_L32 at h
    refine J_iload_n (pc := 32) dX4_cheapest_32 rfl 1 rfl ?_
    refine J_sipush (v := (4096 : Int32)) (pc := 33) dX4_cheapest_33 (by decide) ?_
    refine J_icmp_ge (pc := 36) (tgt := 52) dX4_cheapest_36 (by decide) (fun c6 => ?_) (fun c6 => ?_)
    · replace h := ifp c6 h
      refine J_sub [0] rfl ?_
      exact hK52 _ h
    · replace h := ifn c6 h
      refine J_aload_n (pc := 39) dX4_cheapest_39 rfl 0 rfl ?_
      refine J_LS [(0, .ref 53), (1, .int x1)] [.ref 53] rfl rfl ?_
      refine get_53_13 (pc := 40) w_1036 dX4_cheapest_40 ?_
      refine J_iload_n (pc := 43) dX4_cheapest_43 rfl 1 rfl ?_
      refine J_iconst (v := (0 : Int32)) (pc := 44) dX4_cheapest_44 (by decide) ?_
      obtain ⟨hk7, h⟩ := inb_e h
      refine J_zast (pc := 45) (vp_b (Or.inl rfl)) hk7 dX4_cheapest_45 ?_
      obtain ⟨v8, e9, h⟩ := bnd_e h
      refine J_iinc (v := v8) (pc := 46) dX4_cheapest_46 1 rfl (by rw [e9]; rfl) (Nat.le_of_ble_eq_true rfl) [1, 0] rfl ?_
      refine J_goto (pc := 49) (tgt := 32) dX4_cheapest_49 (by decide) ?_
      exact ih _ _ h
set_option maxHeartbeats 4000000 in
set_option maxRecDepth 100000 in
theorem kL_X4_cheapest_L91 {κ : Kx} {E : En} {Q : State → Prop} {ρ : Type} {r : ρ} (a1 : Int32) (a2 : Int32) (K119 : Wd → Option ρ) (hK119 : ∀ (M : Wd), K119 M = some r → J κ E mi_X4_cheapest Q 0 0 [(0, .ref 53), (1, .int a1)] M 119 []) : ∀ (m : Nat) (x3 : Int32) (M : Wd), F_X4_cheapest_L91 a1 a2 K119 m x3 M = some r → J κ E mi_X4_cheapest Q 0 0 [(0, .ref 53), (1, .int a1), (2, .int a2), (3, .int x3)] M 91 [] := by
  intro m
  induction m with
  | zero => intro x3 M h; exact (nomatch (show (none : Option ρ) = some r from h))
  | succ m ih =>
    intro x3 M h
    unfold F_X4_cheapest_L91 at h
    refine J_iload_n (pc := 91) dX4_cheapest_91 rfl 3 rfl ?_
    refine J_aload_n (pc := 92) dX4_cheapest_92 rfl 0 rfl ?_
    refine J_LS [(0, .ref 53), (1, .int a1), (2, .int a2), (3, .int x3)] [.ref 53, .int x3] rfl rfl ?_
    refine get_53_9 (pc := 93) w_1032 dX4_cheapest_93 ?_
    refine J_icmp_ge (pc := 96) (tgt := 119) dX4_cheapest_96 (by decide) (fun c21 => ?_) (fun c21 => ?_)
    · replace h := ifp c21 h
      refine J_sub [0, 1] rfl ?_
      exact hK119 _ h
    · replace h := ifn c21 h
      refine J_aload_n (pc := 99) dX4_cheapest_99 rfl 0 rfl ?_
      refine J_iload_n (pc := 100) dX4_cheapest_100 rfl 2 rfl ?_
      refine J_LS [(0, .ref 53), (1, .int a1), (2, .int a2), (3, .int x3)] [.int a2, .ref 53] rfl rfl ?_
      refine J_iload_n (pc := 101) dX4_cheapest_101 rfl 3 rfl ?_
      refine J_iconst (v := (-1 : Int32)) (pc := 102) dX4_cheapest_102 (by decide) ?_
      obtain ⟨M22, hc23, h⟩ := obind_e h
      refine J_callV (g := mi_X4_cheaper) (ci := 4) (pc := 103) [.int a2, .int x3, .int (-1 : Int32)] [] mv_X4_cheaper w_1485 (k_X4_cheaper a2 x3 (-1 : Int32) _ hc23) rfl (by decide) rfl rfl rfl ⟨⟨Nat.le_of_ble_eq_true rfl, Nat.le_of_ble_eq_true rfl⟩, Nat.le_of_ble_eq_true rfl, Nat.le_of_ble_eq_true rfl⟩ (Nat.le_of_ble_eq_true rfl) dX4_cheapest_103 (Jk_0 rfl rfl ?_)
      refine J_aload_n (pc := 106) dX4_cheapest_106 rfl 0 rfl ?_
      refine J_LS [(0, .ref 53), (1, .int a1), (2, .int a2), (3, .int x3)] [.ref 53] rfl rfl ?_
      refine J_iload_n (pc := 107) dX4_cheapest_107 rfl 2 rfl ?_
      refine J_iload_n (pc := 108) dX4_cheapest_108 rfl 3 rfl ?_
      refine J_LS [(0, .ref 53), (1, .int a1), (2, .int a2), (3, .int x3)] [.int x3, .int a2, .ref 53] rfl rfl ?_
      refine J_iconst (v := (1 : Int32)) (pc := 109) dX4_cheapest_109 (by decide) ?_
      obtain ⟨M24, hc25, h⟩ := obind_e h
      refine J_callV (g := mi_X4_cheaper) (ci := 4) (pc := 110) [.int a2, .int x3, .int (1 : Int32)] [] mv_X4_cheaper w_1485 (k_X4_cheaper a2 x3 (1 : Int32) _ hc25) rfl (by decide) rfl rfl rfl ⟨⟨Nat.le_of_ble_eq_true rfl, Nat.le_of_ble_eq_true rfl⟩, Nat.le_of_ble_eq_true rfl, Nat.le_of_ble_eq_true rfl⟩ (Nat.le_of_ble_eq_true rfl) dX4_cheapest_110 (Jk_0 rfl rfl ?_)
      obtain ⟨v26, e27, h⟩ := bnd_e h
      refine J_iinc (v := v26) (pc := 113) dX4_cheapest_113 3 rfl (by rw [e27]; rfl) (Nat.le_of_ble_eq_true rfl) [1, 2, 3, 0] rfl ?_
      refine J_goto (pc := 116) (tgt := 91) dX4_cheapest_116 (by decide) ?_
      exact ih _ _ h
set_option maxHeartbeats 4000000 in
set_option maxRecDepth 100000 in
theorem kL_X4_cheapest_L63 {κ : Kx} {E : En} {Q : State → Prop} {ρ : Type} {r : ρ} (K125 : Wd → Option ρ) (hK125 : ∀ (M : Wd), K125 M = some r → J κ E mi_X4_cheapest Q 0 0 [(0, .ref 53)] M 125 []) : ∀ (m : Nat) (x1 : Int32) (M : Wd), F_X4_cheapest_L63 K125 m x1 M = some r → J κ E mi_X4_cheapest Q 0 0 [(0, .ref 53), (1, .int x1)] M 63 [] := by
  intro m
  induction m with
  | zero => intro x1 M h; exact (nomatch (show (none : Option ρ) = some r from h))
  | succ m ih =>
    intro x1 M h
    unfold F_X4_cheapest_L63 at h
    refine J_iload_n (pc := 63) dX4_cheapest_63 rfl 1 rfl ?_
    refine J_aload_n (pc := 64) dX4_cheapest_64 rfl 0 rfl ?_
    refine J_LS [(0, .ref 53), (1, .int x1)] [.ref 53, .int x1] rfl rfl ?_
    refine get_53_14 (pc := 65) w_1037 dX4_cheapest_65 ?_
    refine J_icmp_ge (pc := 68) (tgt := 125) dX4_cheapest_68 (by decide) (fun c16 => ?_) (fun c16 => ?_)
    · replace h := ifp c16 h
      refine J_sub [0] rfl ?_
      exact hK125 _ h
    · replace h := ifn c16 h
      refine J_aload_n (pc := 71) dX4_cheapest_71 rfl 0 rfl ?_
      refine get_53_12 (pc := 72) w_1035 dX4_cheapest_72 ?_
      refine J_iload_n (pc := 75) dX4_cheapest_75 rfl 1 rfl ?_
      refine J_LS [(0, .ref 53), (1, .int x1)] [.int x1, .ref 60] rfl rfl ?_
      refine J_sipush (v := (4096 : Int32)) (pc := 76) dX4_cheapest_76 (by decide) ?_
      refine J_irem (pc := 79) dX4_cheapest_79 (by decide) ?_
      obtain ⟨v17, e18, hk19, h⟩ := ldi_e h
      refine J_iald (c := 60) (N := 4096) (pc := 80) ja_60 (Nat.le_of_ble_eq_true rfl) hk19 dX4_cheapest_80 ?_
      refine J_topi e18 ?_
      refine J_istore_n (pc := 81) dX4_cheapest_81 rfl (Nat.le_of_ble_eq_true rfl) [1, 2, 0] rfl ?_
      refine J_aload_n (pc := 82) dX4_cheapest_82 rfl 0 rfl ?_
      refine J_LS [(0, .ref 53), (1, .int x1), (2, .int v17)] [.ref 53] rfl rfl ?_
      refine get_53_13 (pc := 83) w_1036 dX4_cheapest_83 ?_
      refine J_iload_n (pc := 86) dX4_cheapest_86 rfl 2 rfl ?_
      refine J_iconst (v := (0 : Int32)) (pc := 87) dX4_cheapest_87 (by decide) ?_
      obtain ⟨hk20, h⟩ := inb_e h
      refine J_zast (pc := 88) (vp_b (Or.inl rfl)) hk20 dX4_cheapest_88 ?_
      refine J_iconst (v := (0 : Int32)) (pc := 89) dX4_cheapest_89 (by decide) ?_
      refine J_istore_n (pc := 90) dX4_cheapest_90 rfl (Nat.le_of_ble_eq_true rfl) [1, 2, 3, 0] rfl ?_
      refine J_LS [(0, .ref 53), (1, .int x1), (2, .int v17), (3, .int (0 : Int32))] [] rfl rfl ?_
      refine kL_X4_cheapest_L91 _ _ _ (fun M28 h => ?_) fuelN _ _ h
      obtain ⟨v29, e30, h⟩ := bnd_e h
      refine J_iinc (v := v29) (pc := 119) dX4_cheapest_119 1 rfl (by rw [e30]; rfl) (Nat.le_of_ble_eq_true rfl) [1, 0] rfl ?_
      refine J_goto (pc := 122) (tgt := 63) dX4_cheapest_122 (by decide) ?_
      exact ih _ _ h
set_option maxHeartbeats 4000000 in
set_option maxRecDepth 100000 in
theorem k_X4_cheapest {E : En} (M : Wd) {r : Int32} {M' : Wd} (h : F_X4_cheapest M = some (r, M')) : Con E mi_X4_cheapest [.ref 53] M (.inl (some (.int r))) M' := by
  unfold F_X4_cheapest at h
  refine Con.of (by decide) rfl (Nat.le_of_ble_eq_true rfl) (fun κ => ?_)
  show J κ E mi_X4_cheapest _ 0 0 [(0, .ref 53)] M 0 []
  refine J_aload_n (pc := 0) dX4_cheapest_0 rfl 0 rfl ?_
  refine J_aload_n (pc := 1) dX4_cheapest_1 rfl 0 rfl ?_
  refine J_LS [(0, .ref 53)] [.ref 53, .ref 53] rfl rfl ?_
  refine get_53_3 (pc := 2) w_1026 dX4_cheapest_2 ?_
  refine J_iconst (v := (0 : Int32)) (pc := 5) dX4_cheapest_5 (by decide) ?_
  refine J_iald (c := 55) (N := 82) (pc := 6) ja_55 (Nat.le_of_ble_eq_true rfl) (vpc rfl) dX4_cheapest_6 ?_
  refine J_topi (x := M.1 55 (Int32.toNatClampNeg 0)) (y := (M.1 55 0)) (Eq.symm (a := M.1 55 (Int32.toNatClampNeg 0)) (show M.1 55 0 = (M.1 55 0) from rfl)) ?_
  refine J_aload_n (pc := 7) dX4_cheapest_7 rfl 0 rfl ?_
  refine get_53_3 (pc := 8) w_1026 dX4_cheapest_8 ?_
  refine J_bipush (v := (19 : Int32)) (pc := 11) dX4_cheapest_11 (by decide) ?_
  refine J_iald (c := 55) (N := 82) (pc := 13) ja_55 (Nat.le_of_ble_eq_true rfl) (vpc rfl) dX4_cheapest_13 ?_
  refine J_topi (x := M.1 55 (Int32.toNatClampNeg 19)) (y := (M.1 55 19)) (Eq.symm (a := M.1 55 (Int32.toNatClampNeg 19)) (show M.1 55 19 = (M.1 55 19) from rfl)) ?_
  obtain ⟨M1, hc2, h⟩ := obind_e h
  refine J_callV (g := mi_X4_prepares) (ci := 4) (pc := 14) [.int (M.1 55 0), .int (M.1 55 19)] [] mv_X4_prepares w_1218 (k_X4_prepares (M.1 55 0) (M.1 55 19) _ hc2) rfl (by decide) rfl rfl rfl ⟨⟨Nat.le_of_ble_eq_true rfl, Nat.le_of_ble_eq_true rfl⟩, Nat.le_of_ble_eq_true rfl, Nat.le_of_ble_eq_true rfl⟩ (Nat.le_of_ble_eq_true rfl) dX4_cheapest_14 (Jk_0 rfl rfl ?_)
  refine J_aload_n (pc := 17) dX4_cheapest_17 rfl 0 rfl ?_
  refine J_LS [(0, .ref 53)] [.ref 53] rfl rfl ?_
  refine get_53_9 (pc := 18) w_1032 dX4_cheapest_18 ?_
  refine J_if_ne (pc := 21) (tgt := 26) dX4_cheapest_21 (by decide) (fun c3 => ?_) (fun c3 => ?_)
  · replace h := ifn c3 h
    refine J_aload_n (pc := 26) dX4_cheapest_26 rfl 0 rfl ?_
    obtain ⟨M4, hc5, h⟩ := obind_e h
    refine J_callV (g := mi_X4_forgets) (ci := 4) (pc := 27) [] [] mv_X4_forgets w_1226 (k_X4_forgets _ hc5) rfl (by decide) rfl rfl rfl ⟨⟨Nat.le_of_ble_eq_true rfl, Nat.le_of_ble_eq_true rfl⟩, Nat.le_of_ble_eq_true rfl, Nat.le_of_ble_eq_true rfl⟩ (Nat.le_of_ble_eq_true rfl) dX4_cheapest_27 (Jk_0 rfl rfl ?_)
    refine J_iconst (v := (0 : Int32)) (pc := 30) dX4_cheapest_30 (by decide) ?_
    refine J_istore_n (pc := 31) dX4_cheapest_31 rfl (Nat.le_of_ble_eq_true rfl) [1, 0] rfl ?_
    refine J_LS [(0, .ref 53), (1, .int (0 : Int32))] [] rfl rfl ?_
    refine kL_X4_cheapest_L32 _ (fun M10 h => ?_) fuelN _ _ h
    refine J_aload_n (pc := 52) dX4_cheapest_52 rfl 0 rfl ?_
    refine J_aload_n (pc := 53) dX4_cheapest_53 rfl 0 rfl ?_
    refine J_LS [(0, .ref 53)] [.ref 53, .ref 53] rfl rfl ?_
    obtain ⟨v11, hc12, h⟩ := obind_e h
    refine J_callV (g := mi_X4_codeNow) (ci := 4) (pc := 54) [] [.ref 53] mv_X4_codeNow w_1254 (k_X4_codeNow _ hc12) rfl (by decide) rfl rfl rfl ⟨⟨Nat.le_of_ble_eq_true rfl, Nat.le_of_ble_eq_true rfl⟩, Nat.le_of_ble_eq_true rfl, Nat.le_of_ble_eq_true rfl⟩ (Nat.le_of_ble_eq_true rfl) dX4_cheapest_54 (Jk_v rfl rfl fun hok13 => ?_)
    refine J_iconst (v := (0 : Int32)) (pc := 57) dX4_cheapest_57 (by decide) ?_
    obtain ⟨M14, hc15, h⟩ := obind_e h
    refine J_callV (g := mi_X4_cheapens) (ci := 4) (pc := 58) [.int v11, .int (0 : Int32)] [] mv_X4_cheapens w_1481 (k_X4_cheapens v11 (0 : Int32) _ hc15) rfl (by decide) rfl rfl rfl ⟨⟨Nat.le_of_ble_eq_true rfl, Nat.le_of_ble_eq_true rfl⟩, Nat.le_of_ble_eq_true rfl, Nat.le_of_ble_eq_true rfl⟩ (Nat.le_of_ble_eq_true rfl) dX4_cheapest_58 (Jk_0 rfl rfl ?_)
    refine J_iconst (v := (0 : Int32)) (pc := 61) dX4_cheapest_61 (by decide) ?_
    refine J_istore_n (pc := 62) dX4_cheapest_62 rfl (Nat.le_of_ble_eq_true rfl) [1, 0] rfl ?_
    refine kL_X4_cheapest_L63 _ (fun M31 h => ?_) fuelN _ _ h
    refine J_aload_n (pc := 125) dX4_cheapest_125 rfl 0 rfl ?_
    refine J_LS [(0, .ref 53)] [.ref 53] rfl rfl ?_
    obtain ⟨v32, hc33, h⟩ := obind_e h
    refine J_callV (g := mi_X4_leastEnd) (ci := 4) (pc := 126) [] [] mv_X4_leastEnd w_1457 (k_X4_leastEnd _ hc33) rfl (by decide) rfl rfl rfl ⟨⟨Nat.le_of_ble_eq_true rfl, Nat.le_of_ble_eq_true rfl⟩, Nat.le_of_ble_eq_true rfl, Nat.le_of_ble_eq_true rfl⟩ (Nat.le_of_ble_eq_true rfl) dX4_cheapest_126 (Jk_v rfl rfl fun hok34 => ?_)
    cases h
    exact J_ireturn dX4_cheapest_129 rfl rfl rfl rfl rfl
  · replace h := ifp c3 h
    refine J_iconst (v := (-1 : Int32)) (pc := 24) dX4_cheapest_24 (by decide) ?_
    cases h
    exact J_ireturn dX4_cheapest_25 rfl rfl rfl rfl rfl
set_option maxHeartbeats 4000000 in
set_option maxRecDepth 100000 in
theorem kL_X4_next_L12 {κ : Kx} {E : En} {Q : State → Prop} {ρ : Type} {r : ρ} (a1 : Int32) (M : Wd) (K79 : Int32 → Int32 → Option ρ) (K95 : Option ρ) (hK79 : ∀ (x3 : Int32) (x4 : Int32), K79 x3 x4 = some r → J κ E mi_X4_next Q 0 0 [(3, .int x3), (4, .int x4)] M 79 []) (hK95 : K95 = some r → J κ E mi_X4_next Q 0 0 [] M 95 []) : ∀ (m : Nat) (x2 : Int32), F_X4_next_L12 a1 M K79 K95 m x2 = some r → J κ E mi_X4_next Q 0 0 [(0, .ref 53), (1, .int a1), (2, .int x2)] M 12 [] := by
  intro m
  induction m with
  | zero => intro x2 h; exact (nomatch (show (none : Option ρ) = some r from h))
  | succ m ih =>
    intro x2 h
    unfold F_X4_next_L12 at h
    refine J_iload_n (pc := 12) dX4_next_12 rfl 2 rfl ?_
    refine J_bipush (v := (7 : Int32)) (pc := 13) dX4_next_13 (by decide) ?_
    refine J_aload_n (pc := 15) dX4_next_15 rfl 0 rfl ?_
    refine J_LS [(0, .ref 53), (1, .int a1), (2, .int x2)] [.ref 53, .int (7 : Int32), .int x2] rfl rfl ?_
    refine get_53_3 (pc := 16) w_1026 dX4_next_16 ?_
    refine J_iconst (v := (0 : Int32)) (pc := 19) dX4_next_19 (by decide) ?_
    refine J_iald (c := 55) (N := 82) (pc := 20) ja_55 (Nat.le_of_ble_eq_true rfl) (vpc rfl) dX4_next_20 ?_
    refine J_topi (x := M.1 55 (Int32.toNatClampNeg 0)) (y := (M.1 55 0)) (Eq.symm (a := M.1 55 (Int32.toNatClampNeg 0)) (show M.1 55 0 = (M.1 55 0) from rfl)) ?_
    refine J_imul (pc := 21) dX4_next_21 ?_
    refine J_icmp_ge (pc := 22) (tgt := 95) dX4_next_22 (by decide) (fun c7 => ?_) (fun c7 => ?_)
    · replace h := ifp c7 h
      refine J_sub [] rfl ?_
      exact hK95 h
    · replace h := ifn c7 h
      refine J_iload_n (pc := 25) dX4_next_25 rfl 2 rfl ?_
      refine J_bipush (v := (7 : Int32)) (pc := 26) dX4_next_26 (by decide) ?_
      refine J_idiv (pc := 28) dX4_next_28 (by decide) ?_
      obtain ⟨v8, e9, h⟩ := bnd_e h
      refine J_topi e9 ?_
      refine J_istore_n (pc := 29) dX4_next_29 rfl (Nat.le_of_ble_eq_true rfl) [1, 2, 3, 0] rfl ?_
      refine J_LS [(0, .ref 53), (1, .int a1), (2, .int x2), (3, .int v8)] [] rfl rfl ?_
      refine J_iload_n (pc := 30) dX4_next_30 rfl 2 rfl ?_
      refine J_bipush (v := (7 : Int32)) (pc := 31) dX4_next_31 (by decide) ?_
      refine J_irem (pc := 33) dX4_next_33 (by decide) ?_
      refine J_iconst (v := (3 : Int32)) (pc := 34) dX4_next_34 (by decide) ?_
      refine J_isub (pc := 35) dX4_next_35 ?_
      obtain ⟨v10, e11, h⟩ := bnd_e h
      refine J_topi e11 ?_
      refine J_istore (pc := 36) dX4_next_36 (Nat.le_of_ble_eq_true rfl) [1, 2, 3, 4, 0] rfl ?_
      refine J_LS [(0, .ref 53), (1, .int a1), (2, .int x2), (3, .int v8), (4, .int v10)] [] rfl rfl ?_
      refine J_iload (pc := 38) dX4_next_38 4 rfl ?_
      refine J_if_eq (pc := 40) (tgt := 89) dX4_next_40 (by decide) (fun c12 => ?_) (fun c12 => ?_)
      · replace h := ifp c12 h
        obtain ⟨v13, e14, h⟩ := bnd_e h
        refine J_iinc (v := v13) (pc := 89) dX4_next_89 2 rfl (by rw [e14]; rfl) (Nat.le_of_ble_eq_true rfl) [1, 2, 0, 3, 4] rfl ?_
        refine J_goto (pc := 92) (tgt := 12) dX4_next_92 (by decide) ?_
        refine J_sub [0, 1, 2] rfl ?_
        exact ih _ h
      · replace h := ifn c12 h
        refine J_aload_n (pc := 43) dX4_next_43 rfl 0 rfl ?_
        refine J_LS [(0, .ref 53), (1, .int a1), (2, .int x2), (3, .int v8), (4, .int v10)] [.ref 53] rfl rfl ?_
        refine J_iload_n (pc := 44) dX4_next_44 rfl 3 rfl ?_
        refine J_iload (pc := 45) dX4_next_45 4 rfl ?_
        refine J_LS [(0, .ref 53), (1, .int a1), (2, .int x2), (3, .int v8), (4, .int v10)] [.int v10, .int v8, .ref 53] rfl rfl ?_
        obtain ⟨v15, hc16, h⟩ := obind_e h
        refine J_callV (g := mi_X4_canSlide) (ci := 4) (pc := 47) [.int v8, .int v10] [] mv_X4_canSlide w_1174 (k_X4_canSlide v8 v10 _ hc16) rfl (by decide) rfl rfl rfl ⟨⟨Nat.le_of_ble_eq_true rfl, Nat.le_of_ble_eq_true rfl⟩, Nat.le_of_ble_eq_true rfl, Nat.le_of_ble_eq_true rfl⟩ (Nat.le_of_ble_eq_true rfl) dX4_next_47 (Jk_v rfl rfl fun hok17 => ?_)
        refine J_if_eq (pc := 50) (tgt := 89) dX4_next_50 (by decide) (fun c18 => ?_) (fun c18 => ?_)
        · replace h := ifp c18 h
          obtain ⟨v19, e20, h⟩ := bnd_e h
          refine J_iinc (v := v19) (pc := 89) dX4_next_89 2 rfl (by rw [e20]; rfl) (Nat.le_of_ble_eq_true rfl) [1, 2, 0, 3, 4] rfl ?_
          refine J_goto (pc := 92) (tgt := 12) dX4_next_92 (by decide) ?_
          refine J_sub [0, 1, 2] rfl ?_
          exact ih _ h
        · replace h := ifn c18 h
          refine J_aload_n (pc := 53) dX4_next_53 rfl 0 rfl ?_
          obtain ⟨v21, hc22, h⟩ := obind_e h
          refine J_callV (g := mi_X4_codeNow) (ci := 4) (pc := 54) [] [] mv_X4_codeNow w_1254 (k_X4_codeNow _ hc22) rfl (by decide) rfl rfl rfl ⟨⟨Nat.le_of_ble_eq_true rfl, Nat.le_of_ble_eq_true rfl⟩, Nat.le_of_ble_eq_true rfl, Nat.le_of_ble_eq_true rfl⟩ (Nat.le_of_ble_eq_true rfl) dX4_next_54 (Jk_v rfl rfl fun hok23 => ?_)
          refine J_iload (pc := 57) dX4_next_57 4 rfl ?_
          refine J_LS [(0, .ref 53), (1, .int a1), (2, .int x2), (3, .int v8), (4, .int v10)] [.int v10, .int v21] rfl rfl ?_
          refine J_iconst (v := (2 : Int32)) (pc := 59) dX4_next_59 (by decide) ?_
          refine J_iload_n (pc := 60) dX4_next_60 rfl 3 rfl ?_
          refine J_imul (pc := 61) dX4_next_61 ?_
          refine J_ishl (pc := 62) dX4_next_62 ?_
          refine J_iadd (pc := 63) dX4_next_63 ?_
          obtain ⟨v24, e25, h⟩ := bnd_e h
          refine J_topi e25 ?_
          refine J_istore (pc := 64) dX4_next_64 (Nat.le_of_ble_eq_true rfl) [1, 2, 3, 4, 5, 0] rfl ?_
          refine J_LS [(0, .ref 53), (1, .int a1), (2, .int x2), (3, .int v8), (4, .int v10), (5, .int v24)] [] rfl rfl ?_
          refine J_aload_n (pc := 66) dX4_next_66 rfl 0 rfl ?_
          refine get_53_11 (pc := 67) w_1034 dX4_next_67 ?_
          refine J_iload (pc := 70) dX4_next_70 5 rfl ?_
          refine J_LS [(0, .ref 53), (1, .int a1), (2, .int x2), (3, .int v8), (4, .int v10), (5, .int v24)] [.int v24, .ref 59] rfl rfl ?_
          obtain ⟨v26, e27, hk28, h⟩ := ldi_e h
          refine J_iald (c := 59) (N := 4096) (pc := 72) ja_59 (Nat.le_of_ble_eq_true rfl) hk28 dX4_next_72 ?_
          refine J_topi e27 ?_
          refine J_iload_n (pc := 73) dX4_next_73 rfl 1 rfl ?_
          refine J_iconst (v := (1 : Int32)) (pc := 74) dX4_next_74 (by decide) ?_
          refine J_isub (pc := 75) dX4_next_75 ?_
          refine J_icmp_ne (pc := 76) (tgt := 89) dX4_next_76 (by decide) (fun c29 => ?_) (fun c29 => ?_)
          · replace h := ifn c29 h
            obtain ⟨v30, e31, h⟩ := bnd_e h
            refine J_iinc (v := v30) (pc := 89) dX4_next_89 2 rfl (by rw [e31]; rfl) (Nat.le_of_ble_eq_true rfl) [1, 2, 0, 3, 4, 5] rfl ?_
            refine J_goto (pc := 92) (tgt := 12) dX4_next_92 (by decide) ?_
            refine J_sub [0, 1, 2] rfl ?_
            exact ih _ h
          · replace h := ifp c29 h
            refine J_sub [3, 4] rfl ?_
            exact hK79 _ _ h
set_option maxHeartbeats 4000000 in
set_option maxRecDepth 100000 in
theorem k_X4_next {E : En} (M : Wd) {r : Int32} (h : F_X4_next M = some r) : Con E mi_X4_next [.ref 53] M (.inl (some (.int r))) M := by
  unfold F_X4_next at h
  refine Con.of (by decide) rfl (Nat.le_of_ble_eq_true rfl) (fun κ => ?_)
  show J κ E mi_X4_next _ 0 0 [(0, .ref 53)] M 0 []
  refine J_aload_n (pc := 0) dX4_next_0 rfl 0 rfl ?_
  refine get_53_11 (pc := 1) w_1034 dX4_next_1 ?_
  refine J_aload_n (pc := 4) dX4_next_4 rfl 0 rfl ?_
  refine J_LS [(0, .ref 53)] [.ref 53, .ref 59] rfl rfl ?_
  obtain ⟨v1, hc2, h⟩ := obind_e h
  refine J_callV (g := mi_X4_codeNow) (ci := 4) (pc := 5) [] [.ref 59] mv_X4_codeNow w_1254 (k_X4_codeNow _ hc2) rfl (by decide) rfl rfl rfl ⟨⟨Nat.le_of_ble_eq_true rfl, Nat.le_of_ble_eq_true rfl⟩, Nat.le_of_ble_eq_true rfl, Nat.le_of_ble_eq_true rfl⟩ (Nat.le_of_ble_eq_true rfl) dX4_next_5 (Jk_v rfl rfl fun hok3 => ?_)
  obtain ⟨v4, e5, hk6, h⟩ := ldi_e h
  refine J_iald (c := 59) (N := 4096) (pc := 8) ja_59 (Nat.le_of_ble_eq_true rfl) hk6 dX4_next_8 ?_
  refine J_topi e5 ?_
  refine J_istore_n (pc := 9) dX4_next_9 rfl (Nat.le_of_ble_eq_true rfl) [1, 0] rfl ?_
  refine J_iconst (v := (0 : Int32)) (pc := 10) dX4_next_10 (by decide) ?_
  refine J_istore_n (pc := 11) dX4_next_11 rfl (Nat.le_of_ble_eq_true rfl) [1, 2, 0] rfl ?_
  refine J_LS [(0, .ref 53), (1, .int v4), (2, .int (0 : Int32))] [] rfl rfl ?_
  refine kL_X4_next_L12 _ _ _ _ (fun v32 v33 h => ?_) (fun h => ?_) fuelN _ h
  · refine J_bipush (v := (8 : Int32)) (pc := 79) dX4_next_79 (by decide) ?_
    refine J_iload_n (pc := 81) dX4_next_81 rfl 0 rfl ?_
    refine J_imul (pc := 82) dX4_next_82 ?_
    refine J_iload (pc := 83) dX4_next_83 1 rfl ?_
    refine J_LS [(3, .int v32), (4, .int v33)] [.int v33, .int ((8 : Int32) * v32)] rfl rfl ?_
    refine J_iadd (pc := 85) dX4_next_85 ?_
    refine J_iconst (v := (3 : Int32)) (pc := 86) dX4_next_86 (by decide) ?_
    refine J_iadd (pc := 87) dX4_next_87 ?_
    cases h
    exact J_ireturn dX4_next_88 rfl rfl rfl rfl rfl
  · refine J_iconst (v := (-1 : Int32)) (pc := 95) dX4_next_95 (by decide) ?_
    cases h
    exact J_ireturn dX4_next_96 rfl rfl rfl rfl rfl
set_option maxHeartbeats 4000000 in
set_option maxRecDepth 100000 in
theorem k_X4_planned {E : En} (M : Wd) {r : Int32} {M' : Wd} (h : F_X4_planned M = some (r, M')) : Con E mi_X4_planned [.ref 53] M (.inl (some (.int r))) M' := by
  unfold F_X4_planned at h
  refine Con.of (by decide) rfl (Nat.le_of_ble_eq_true rfl) (fun κ => ?_)
  show J κ E mi_X4_planned _ 0 0 [(0, .ref 53)] M 0 []
  refine J_aload_n (pc := 0) dX4_planned_0 rfl 0 rfl ?_
  refine J_aload_n (pc := 1) dX4_planned_1 rfl 0 rfl ?_
  refine J_LS [(0, .ref 53)] [.ref 53, .ref 53] rfl rfl ?_
  refine get_53_3 (pc := 2) w_1026 dX4_planned_2 ?_
  refine J_iconst (v := (0 : Int32)) (pc := 5) dX4_planned_5 (by decide) ?_
  refine J_iald (c := 55) (N := 82) (pc := 6) ja_55 (Nat.le_of_ble_eq_true rfl) (vpc rfl) dX4_planned_6 ?_
  refine J_topi (x := M.1 55 (Int32.toNatClampNeg 0)) (y := (M.1 55 0)) (Eq.symm (a := M.1 55 (Int32.toNatClampNeg 0)) (show M.1 55 0 = (M.1 55 0) from rfl)) ?_
  refine J_aload_n (pc := 7) dX4_planned_7 rfl 0 rfl ?_
  refine get_53_3 (pc := 8) w_1026 dX4_planned_8 ?_
  refine J_bipush (v := (19 : Int32)) (pc := 11) dX4_planned_11 (by decide) ?_
  refine J_iald (c := 55) (N := 82) (pc := 13) ja_55 (Nat.le_of_ble_eq_true rfl) (vpc rfl) dX4_planned_13 ?_
  refine J_topi (x := M.1 55 (Int32.toNatClampNeg 19)) (y := (M.1 55 19)) (Eq.symm (a := M.1 55 (Int32.toNatClampNeg 19)) (show M.1 55 19 = (M.1 55 19) from rfl)) ?_
  obtain ⟨M1, hc2, h⟩ := obind_e h
  refine J_callV (g := mi_X4_prepares) (ci := 4) (pc := 14) [.int (M.1 55 0), .int (M.1 55 19)] [] mv_X4_prepares w_1218 (k_X4_prepares (M.1 55 0) (M.1 55 19) _ hc2) rfl (by decide) rfl rfl rfl ⟨⟨Nat.le_of_ble_eq_true rfl, Nat.le_of_ble_eq_true rfl⟩, Nat.le_of_ble_eq_true rfl, Nat.le_of_ble_eq_true rfl⟩ (Nat.le_of_ble_eq_true rfl) dX4_planned_14 (Jk_0 rfl rfl ?_)
  refine J_aload_n (pc := 17) dX4_planned_17 rfl 0 rfl ?_
  refine J_LS [(0, .ref 53)] [.ref 53] rfl rfl ?_
  refine get_53_9 (pc := 18) w_1032 dX4_planned_18 ?_
  refine J_if_ne (pc := 21) (tgt := 26) dX4_planned_21 (by decide) (fun c3 => ?_) (fun c3 => ?_)
  · replace h := ifn c3 h
    refine J_aload_n (pc := 26) dX4_planned_26 rfl 0 rfl ?_
    obtain ⟨M4, hc5, h⟩ := obind_e h
    refine J_callV (g := mi_X4_fromEnds) (ci := 4) (pc := 27) [] [] mv_X4_fromEnds w_1222 (k_X4_fromEnds _ hc5) rfl (by decide) rfl rfl rfl ⟨⟨Nat.le_of_ble_eq_true rfl, Nat.le_of_ble_eq_true rfl⟩, Nat.le_of_ble_eq_true rfl, Nat.le_of_ble_eq_true rfl⟩ (Nat.le_of_ble_eq_true rfl) dX4_planned_27 (Jk_0 rfl rfl ?_)
    refine J_aload_n (pc := 30) dX4_planned_30 rfl 0 rfl ?_
    refine J_LS [(0, .ref 53)] [.ref 53] rfl rfl ?_
    refine get_53_11 (pc := 31) w_1034 dX4_planned_31 ?_
    refine J_aload_n (pc := 34) dX4_planned_34 rfl 0 rfl ?_
    obtain ⟨v6, hc7, h⟩ := obind_e h
    refine J_callV (g := mi_X4_codeNow) (ci := 4) (pc := 35) [] [.ref 59] mv_X4_codeNow w_1254 (k_X4_codeNow _ hc7) rfl (by decide) rfl rfl rfl ⟨⟨Nat.le_of_ble_eq_true rfl, Nat.le_of_ble_eq_true rfl⟩, Nat.le_of_ble_eq_true rfl, Nat.le_of_ble_eq_true rfl⟩ (Nat.le_of_ble_eq_true rfl) dX4_planned_35 (Jk_v rfl rfl fun hok8 => ?_)
    obtain ⟨v9, e10, hk11, h⟩ := ldi_e h
    refine J_iald (c := 59) (N := 4096) (pc := 38) ja_59 (Nat.le_of_ble_eq_true rfl) hk11 dX4_planned_38 ?_
    refine J_topi e10 ?_
    cases h
    exact J_ireturn dX4_planned_39 rfl rfl rfl rfl rfl
  · replace h := ifp c3 h
    refine J_iconst (v := (-1 : Int32)) (pc := 24) dX4_planned_24 (by decide) ?_
    cases h
    exact J_ireturn dX4_planned_25 rfl rfl rfl rfl rfl
set_option maxHeartbeats 4000000 in
set_option maxRecDepth 100000 in
theorem kL_X4_saves_L10 {κ : Kx} {E : En} {Q : State → Prop} {ρ : Type} {r : ρ} (K38 : Wd → Option ρ) (hK38 : ∀ (M : Wd), K38 M = some r → J κ E mi_X4_saves Q 0 0 [(0, .ref 53)] M 38 []) : ∀ (m : Nat) (x1 : Int32) (M : Wd), F_X4_saves_L10 K38 m x1 M = some r → J κ E mi_X4_saves Q 0 0 [(0, .ref 53), (1, .int x1)] M 10 [] := by
  intro m
  induction m with
  | zero => intro x1 M h; exact (nomatch (show (none : Option ρ) = some r from h))
  | succ m ih =>
    intro x1 M h
    unfold F_X4_saves_L10 at h
    refine J_iload_n (pc := 10) dX4_saves_10 rfl 1 rfl ?_
    refine J_sipush (v := (328 : Int32)) (pc := 11) dX4_saves_11 (by decide) ?_
    refine J_icmp_ge (pc := 14) (tgt := 38) dX4_saves_14 (by decide) (fun c3 => ?_) (fun c3 => ?_)
    · replace h := ifp c3 h
      refine J_sub [0] rfl ?_
      exact hK38 _ h
    · replace h := ifn c3 h
      refine J_aload_n (pc := 17) dX4_saves_17 rfl 0 rfl ?_
      refine J_LS [(0, .ref 53), (1, .int x1)] [.ref 53] rfl rfl ?_
      refine get_53_4 (pc := 18) w_1027 dX4_saves_18 ?_
      refine J_iload_n (pc := 21) dX4_saves_21 rfl 1 rfl ?_
      refine J_aload_n (pc := 22) dX4_saves_22 rfl 0 rfl ?_
      refine J_LS [(0, .ref 53), (1, .int x1)] [.ref 53, .int x1, .ref 56] rfl rfl ?_
      refine get_53_4 (pc := 23) w_1027 dX4_saves_23 ?_
      refine J_iload_n (pc := 26) dX4_saves_26 rfl 1 rfl ?_
      refine J_bipush (v := (82 : Int32)) (pc := 27) dX4_saves_27 (by decide) ?_
      refine J_iadd (pc := 29) dX4_saves_29 ?_
      obtain ⟨v4, e5, hk6, h⟩ := ldi_e h
      refine J_iald (c := 56) (N := 410) (pc := 30) ja_56 (Nat.le_of_ble_eq_true rfl) hk6 dX4_saves_30 ?_
      refine J_topi e5 ?_
      obtain ⟨hk7, h⟩ := inb_e h
      refine J_iast (c := 56) (N := 410) (pc := 31) (fun _ => ja_56) (Nat.le_of_ble_eq_true rfl) hk7 dX4_saves_31 ?_
      obtain ⟨v8, e9, h⟩ := bnd_e h
      refine J_iinc (v := v8) (pc := 32) dX4_saves_32 1 rfl (by rw [e9]; rfl) (Nat.le_of_ble_eq_true rfl) [1, 0] rfl ?_
      refine J_goto (pc := 35) (tgt := 10) dX4_saves_35 (by decide) ?_
      exact ih _ _ h
set_option maxHeartbeats 4000000 in
set_option maxRecDepth 100000 in
theorem k_X4_saves {E : En} (M : Wd) {M' : Wd} (h : F_X4_saves M = some M') : Con E mi_X4_saves [.ref 53] M (.inl none) M' := by
  unfold F_X4_saves at h
  refine Con.of (by decide) rfl (Nat.le_of_ble_eq_true rfl) (fun κ => ?_)
  show J κ E mi_X4_saves _ 0 0 [(0, .ref 53)] M 0 []
  refine J_aload_n (pc := 0) dX4_saves_0 rfl 0 rfl ?_
  refine get_53_5 (pc := 1) w_1028 dX4_saves_1 ?_
  refine J_iconst (v := (5 : Int32)) (pc := 4) dX4_saves_4 (by decide) ?_
  obtain ⟨M1, hv11, h⟩ := obind_e h
  refine J_join [(0, .ref 53)] M1 48 [] ?_ (fun hJ => ?_)
  · refine J_aload_n (pc := 48) dX4_saves_48 rfl 0 rfl ?_
    refine get_53_3 (pc := 49) w_1026 dX4_saves_49 ?_
    refine J_iconst (v := (0 : Int32)) (pc := 52) dX4_saves_52 (by decide) ?_
    refine J_aload_n (pc := 53) dX4_saves_53 rfl 0 rfl ?_
    refine J_LS [(0, .ref 53)] [.ref 53, .int (0 : Int32), .ref 55] rfl rfl ?_
    refine get_53_4 (pc := 54) w_1027 dX4_saves_54 ?_
    refine J_bipush (v := (82 : Int32)) (pc := 57) dX4_saves_57 (by decide) ?_
    refine J_aload_n (pc := 59) dX4_saves_59 rfl 0 rfl ?_
    refine get_53_5 (pc := 60) w_1028 dX4_saves_60 ?_
    refine J_imul (pc := 63) dX4_saves_63 ?_
    obtain ⟨M12, hc13, h⟩ := obind_e h
    refine J_callS (g := mi_X4_copyState) (pc := 64) [.ref 55, .int (0 : Int32), .ref 56, .int ((82 : Int32) * (M1.1 53 5))] [] ms_X4_copyState w_1128 (k_X4_copyState_55_56 (0 : Int32) ((82 : Int32) * (M1.1 53 5)) _ hc13) rfl rfl ⟨⟨Nat.le_of_ble_eq_true rfl, Nat.le_of_ble_eq_true rfl⟩, Nat.le_of_ble_eq_true rfl, Nat.le_of_ble_eq_true rfl⟩ (Nat.le_of_ble_eq_true rfl) dX4_saves_64 (Jk_0 rfl rfl ?_)
    refine J_aload_n (pc := 67) dX4_saves_67 rfl 0 rfl ?_
    refine J_LS [(0, .ref 53)] [.ref 53] rfl rfl ?_
    refine J_dup (pc := 68) dX4_saves_68 rfl ?_
    refine get_53_5 (pc := 69) w_1028 dX4_saves_69 ?_
    refine J_iconst (v := (1 : Int32)) (pc := 72) dX4_saves_72 (by decide) ?_
    refine J_iadd (pc := 73) dX4_saves_73 ?_
    refine put_53_5 (pc := 74) w_1028 dX4_saves_74 ?_
    cases h
    exact J_return dX4_saves_77 rfl rfl rfl rfl rfl
  · replace h := hv11
    refine J_icmp_ne (pc := 5) (tgt := 48) dX4_saves_5 (by decide) (fun c2 => ?_) (fun c2 => ?_)
    · replace h := ifn c2 h
      cases h
      exact hJ
    · replace h := ifp c2 h
      refine J_iconst (v := (0 : Int32)) (pc := 8) dX4_saves_8 (by decide) ?_
      refine J_istore_n (pc := 9) dX4_saves_9 rfl (Nat.le_of_ble_eq_true rfl) [1, 0] rfl ?_
      refine J_LS [(0, .ref 53), (1, .int (0 : Int32))] [] rfl rfl ?_
      refine kL_X4_saves_L10 _ (fun M10 h => ?_) fuelN _ _ h
      refine J_aload_n (pc := 38) dX4_saves_38 rfl 0 rfl ?_
      refine J_dup (pc := 39) dX4_saves_39 rfl ?_
      refine get_53_5 (pc := 40) w_1028 dX4_saves_40 ?_
      refine J_iconst (v := (1 : Int32)) (pc := 43) dX4_saves_43 (by decide) ?_
      refine J_isub (pc := 44) dX4_saves_44 ?_
      refine put_53_5 (pc := 45) w_1028 dX4_saves_45 ?_
      cases h
      exact hJ

/-! ===== walks of the methods, 11 ===== -/
set_option maxHeartbeats 4000000 in
set_option maxRecDepth 100000 in
theorem kL_X4_cheapest_L32 {κ : Kx} {E : En} {Q : State → Prop} {ρ : Type} {r : ρ} (K52 : Wd → Option ρ) (hK52 : ∀ (M : Wd), K52 M = some r → J κ E mi_X4_cheapest Q 0 0 [(0, .ref 53)] M 52 []) : ∀ (m : Nat) (x1 : Int32) (M : Wd), F_X4_cheapest_L32 K52 m x1 M = some r → J κ E mi_X4_cheapest Q 0 0 [(0, .ref 53), (1, .int x1)] M 32 [] := by
  intro m
  induction m with
  | zero => intro x1 M h; exact (nomatch (show (none : Option ρ) = some r from h))
  | succ m ih =>
    intro x1 M h
    unfold F_X4_cheapest_L32 at h
    refine J_iload_n (pc := 32) dX4_cheapest_32 rfl 1 rfl ?_
    refine J_sipush (v := (4096 : Int32)) (pc := 33) dX4_cheapest_33 (by decide) ?_
    refine J_icmp_ge (pc := 36) (tgt := 52) dX4_cheapest_36 (by decide) (fun c6 => ?_) (fun c6 => ?_)
    · replace h := ifp c6 h
      refine J_sub [0] rfl ?_
      exact hK52 _ h
    · replace h := ifn c6 h
      refine J_aload_n (pc := 39) dX4_cheapest_39 rfl 0 rfl ?_
      refine get_53_13 (pc := 40) w_1036 dX4_cheapest_40 ?_
      refine J_iload_n (pc := 43) dX4_cheapest_43 rfl 1 rfl ?_
      refine J_iconst (v := (0 : Int32)) (pc := 44) dX4_cheapest_44 (by decide) ?_
      obtain ⟨hk7, h⟩ := inb_e h
      refine J_zast (pc := 45) (vp_b (Or.inl rfl)) hk7 dX4_cheapest_45 ?_
      obtain ⟨v8, e9, h⟩ := bnd_e h
      refine J_iinc (v := v8) (pc := 46) dX4_cheapest_46 1 rfl (by rw [e9]; rfl) (Nat.le_of_ble_eq_true rfl) [1, 0] rfl ?_
      refine J_goto (pc := 49) (tgt := 32) dX4_cheapest_49 (by decide) ?_
      exact ih _ _ h
set_option maxHeartbeats 4000000 in
set_option maxRecDepth 100000 in
theorem kL_X4_cheapest_L91 {κ : Kx} {E : En} {Q : State → Prop} {ρ : Type} {r : ρ} (a1 : Int32) (a2 : Int32) (K119 : Wd → Option ρ) (hK119 : ∀ (M : Wd), K119 M = some r → J κ E mi_X4_cheapest Q 0 0 [(0, .ref 53), (1, .int a1)] M 119 []) : ∀ (m : Nat) (x3 : Int32) (M : Wd), F_X4_cheapest_L91 a1 a2 K119 m x3 M = some r → J κ E mi_X4_cheapest Q 0 0 [(0, .ref 53), (1, .int a1), (2, .int a2), (3, .int x3)] M 91 [] := by
  intro m
  induction m with
  | zero => intro x3 M h; exact (nomatch (show (none : Option ρ) = some r from h))
  | succ m ih =>
    intro x3 M h
    unfold F_X4_cheapest_L91 at h
    refine J_iload_n (pc := 91) dX4_cheapest_91 rfl 3 rfl ?_
    refine J_aload_n (pc := 92) dX4_cheapest_92 rfl 0 rfl ?_
    refine get_53_9 (pc := 93) w_1032 dX4_cheapest_93 ?_
    refine J_icmp_ge (pc := 96) (tgt := 119) dX4_cheapest_96 (by decide) (fun c21 => ?_) (fun c21 => ?_)
    · replace h := ifp c21 h
      refine J_sub [0, 1] rfl ?_
      exact hK119 _ h
    · replace h := ifn c21 h
      refine J_aload_n (pc := 99) dX4_cheapest_99 rfl 0 rfl ?_
      refine J_iload_n (pc := 100) dX4_cheapest_100 rfl 2 rfl ?_
      refine J_iload_n (pc := 101) dX4_cheapest_101 rfl 3 rfl ?_
      refine J_iconst (v := (-1 : Int32)) (pc := 102) dX4_cheapest_102 (by decide) ?_
      obtain ⟨M22, hc23, h⟩ := obind_e h
      refine J_callV (g := mi_X4_cheaper) (ci := 4) (pc := 103) [.int a2, .int x3, .int (-1 : Int32)] [] mv_X4_cheaper w_1485 (k_X4_cheaper a2 x3 (-1 : Int32) _ hc23) rfl (by decide) rfl rfl rfl ⟨⟨Nat.le_of_ble_eq_true rfl, Nat.le_of_ble_eq_true rfl⟩, Nat.le_of_ble_eq_true rfl, Nat.le_of_ble_eq_true rfl⟩ (Nat.le_of_ble_eq_true rfl) dX4_cheapest_103 (Jk_0 rfl rfl ?_)
      refine J_aload_n (pc := 106) dX4_cheapest_106 rfl 0 rfl ?_
      refine J_iload_n (pc := 107) dX4_cheapest_107 rfl 2 rfl ?_
      refine J_iload_n (pc := 108) dX4_cheapest_108 rfl 3 rfl ?_
      refine J_iconst (v := (1 : Int32)) (pc := 109) dX4_cheapest_109 (by decide) ?_
      obtain ⟨M24, hc25, h⟩ := obind_e h
      refine J_callV (g := mi_X4_cheaper) (ci := 4) (pc := 110) [.int a2, .int x3, .int (1 : Int32)] [] mv_X4_cheaper w_1485 (k_X4_cheaper a2 x3 (1 : Int32) _ hc25) rfl (by decide) rfl rfl rfl ⟨⟨Nat.le_of_ble_eq_true rfl, Nat.le_of_ble_eq_true rfl⟩, Nat.le_of_ble_eq_true rfl, Nat.le_of_ble_eq_true rfl⟩ (Nat.le_of_ble_eq_true rfl) dX4_cheapest_110 (Jk_0 rfl rfl ?_)
      obtain ⟨v26, e27, h⟩ := bnd_e h
      refine J_iinc (v := v26) (pc := 113) dX4_cheapest_113 3 rfl (by rw [e27]; rfl) (Nat.le_of_ble_eq_true rfl) [1, 2, 3, 0] rfl ?_
      refine J_goto (pc := 116) (tgt := 91) dX4_cheapest_116 (by decide) ?_
      exact ih _ _ h
set_option maxHeartbeats 4000000 in
set_option maxRecDepth 100000 in
theorem kL_X4_cheapest_L63 {κ : Kx} {E : En} {Q : State → Prop} {ρ : Type} {r : ρ} (K125 : Wd → Option ρ) (hK125 : ∀ (M : Wd), K125 M = some r → J κ E mi_X4_cheapest Q 0 0 [(0, .ref 53)] M 125 []) : ∀ (m : Nat) (x1 : Int32) (M : Wd), F_X4_cheapest_L63 K125 m x1 M = some r → J κ E mi_X4_cheapest Q 0 0 [(0, .ref 53), (1, .int x1)] M 63 [] := by
  intro m
  induction m with
  | zero => intro x1 M h; exact (nomatch (show (none : Option ρ) = some r from h))
  | succ m ih =>
    intro x1 M h
    unfold F_X4_cheapest_L63 at h
    refine J_iload_n (pc := 63) dX4_cheapest_63 rfl 1 rfl ?_
    refine J_aload_n (pc := 64) dX4_cheapest_64 rfl 0 rfl ?_
    refine get_53_14 (pc := 65) w_1037 dX4_cheapest_65 ?_
    refine J_icmp_ge (pc := 68) (tgt := 125) dX4_cheapest_68 (by decide) (fun c16 => ?_) (fun c16 => ?_)
    · replace h := ifp c16 h
      refine J_sub [0] rfl ?_
      exact hK125 _ h
    · replace h := ifn c16 h
      refine J_aload_n (pc := 71) dX4_cheapest_71 rfl 0 rfl ?_
      refine get_53_12 (pc := 72) w_1035 dX4_cheapest_72 ?_
      refine J_iload_n (pc := 75) dX4_cheapest_75 rfl 1 rfl ?_
      refine J_sipush (v := (4096 : Int32)) (pc := 76) dX4_cheapest_76 (by decide) ?_
      refine J_irem (pc := 79) dX4_cheapest_79 (by decide) ?_
      obtain ⟨v17, e18, hk19, h⟩ := ldi_e h
      refine J_iald (c := 60) (N := 4096) (pc := 80) ja_60 (Nat.le_of_ble_eq_true rfl) hk19 dX4_cheapest_80 ?_
      refine J_topi e18 ?_
      refine J_istore_n (pc := 81) dX4_cheapest_81 rfl (Nat.le_of_ble_eq_true rfl) [1, 2, 0] rfl ?_
      refine J_aload_n (pc := 82) dX4_cheapest_82 rfl 0 rfl ?_
      refine get_53_13 (pc := 83) w_1036 dX4_cheapest_83 ?_
      refine J_iload_n (pc := 86) dX4_cheapest_86 rfl 2 rfl ?_
      refine J_iconst (v := (0 : Int32)) (pc := 87) dX4_cheapest_87 (by decide) ?_
      obtain ⟨hk20, h⟩ := inb_e h
      refine J_zast (pc := 88) (vp_b (Or.inl rfl)) hk20 dX4_cheapest_88 ?_
      refine J_iconst (v := (0 : Int32)) (pc := 89) dX4_cheapest_89 (by decide) ?_
      refine J_istore_n (pc := 90) dX4_cheapest_90 rfl (Nat.le_of_ble_eq_true rfl) [1, 2, 3, 0] rfl ?_
      refine J_LS [(0, .ref 53), (1, .int x1), (2, .int v17), (3, .int (0 : Int32))] [] rfl rfl ?_
      refine kL_X4_cheapest_L91 _ _ _ (fun M28 h => ?_) fuelN _ _ h
      obtain ⟨v29, e30, h⟩ := bnd_e h
      refine J_iinc (v := v29) (pc := 119) dX4_cheapest_119 1 rfl (by rw [e30]; rfl) (Nat.le_of_ble_eq_true rfl) [1, 0] rfl ?_
      refine J_goto (pc := 122) (tgt := 63) dX4_cheapest_122 (by decide) ?_
      exact ih _ _ h
set_option maxHeartbeats 4000000 in
set_option maxRecDepth 100000 in
theorem k_X4_cheapest {E : En} (M : Wd) {r : Int32} {M' : Wd} (h : F_X4_cheapest M = some (r, M')) : Con E mi_X4_cheapest [.ref 53] M (.inl (some (.int r))) M' := by
  unfold F_X4_cheapest at h
  refine Con.of (by decide) rfl (Nat.le_of_ble_eq_true rfl) (fun κ => ?_)
  show J κ E mi_X4_cheapest _ 0 0 [(0, .ref 53)] M 0 []
  refine J_aload_n (pc := 0) dX4_cheapest_0 rfl 0 rfl ?_
  refine J_aload_n (pc := 1) dX4_cheapest_1 rfl 0 rfl ?_
  refine get_53_3 (pc := 2) w_1026 dX4_cheapest_2 ?_
  refine J_iconst (v := (0 : Int32)) (pc := 5) dX4_cheapest_5 (by decide) ?_
  refine J_iald (c := 55) (N := 82) (pc := 6) ja_55 (Nat.le_of_ble_eq_true rfl) (vpc rfl) dX4_cheapest_6 ?_
  refine J_topi (x := M.1 55 (Int32.toNatClampNeg 0)) (y := (M.1 55 0)) (Eq.symm (a := M.1 55 (Int32.toNatClampNeg 0)) (show M.1 55 0 = (M.1 55 0) from rfl)) ?_
  refine J_aload_n (pc := 7) dX4_cheapest_7 rfl 0 rfl ?_
  refine get_53_3 (pc := 8) w_1026 dX4_cheapest_8 ?_
  refine J_bipush (v := (19 : Int32)) (pc := 11) dX4_cheapest_11 (by decide) ?_
  refine J_iald (c := 55) (N := 82) (pc := 13) ja_55 (Nat.le_of_ble_eq_true rfl) (vpc rfl) dX4_cheapest_13 ?_
  refine J_topi (x := M.1 55 (Int32.toNatClampNeg 19)) (y := (M.1 55 19)) (Eq.symm (a := M.1 55 (Int32.toNatClampNeg 19)) (show M.1 55 19 = (M.1 55 19) from rfl)) ?_
  obtain ⟨M1, hc2, h⟩ := obind_e h
  refine J_callV (g := mi_X4_prepares) (ci := 4) (pc := 14) [.int (M.1 55 0), .int (M.1 55 19)] [] mv_X4_prepares w_1218 (k_X4_prepares (M.1 55 0) (M.1 55 19) _ hc2) rfl (by decide) rfl rfl rfl ⟨⟨Nat.le_of_ble_eq_true rfl, Nat.le_of_ble_eq_true rfl⟩, Nat.le_of_ble_eq_true rfl, Nat.le_of_ble_eq_true rfl⟩ (Nat.le_of_ble_eq_true rfl) dX4_cheapest_14 (Jk_0 rfl rfl ?_)
  refine J_aload_n (pc := 17) dX4_cheapest_17 rfl 0 rfl ?_
  refine get_53_9 (pc := 18) w_1032 dX4_cheapest_18 ?_
  refine J_if_ne (pc := 21) (tgt := 26) dX4_cheapest_21 (by decide) (fun c3 => ?_) (fun c3 => ?_)
  · replace h := ifn c3 h
    refine J_aload_n (pc := 26) dX4_cheapest_26 rfl 0 rfl ?_
    obtain ⟨M4, hc5, h⟩ := obind_e h
    refine J_callV (g := mi_X4_forgets) (ci := 4) (pc := 27) [] [] mv_X4_forgets w_1226 (k_X4_forgets _ hc5) rfl (by decide) rfl rfl rfl ⟨⟨Nat.le_of_ble_eq_true rfl, Nat.le_of_ble_eq_true rfl⟩, Nat.le_of_ble_eq_true rfl, Nat.le_of_ble_eq_true rfl⟩ (Nat.le_of_ble_eq_true rfl) dX4_cheapest_27 (Jk_0 rfl rfl ?_)
    refine J_iconst (v := (0 : Int32)) (pc := 30) dX4_cheapest_30 (by decide) ?_
    refine J_istore_n (pc := 31) dX4_cheapest_31 rfl (Nat.le_of_ble_eq_true rfl) [1, 0] rfl ?_
    refine kL_X4_cheapest_L32 _ (fun M10 h => ?_) fuelN _ _ h
    refine J_aload_n (pc := 52) dX4_cheapest_52 rfl 0 rfl ?_
    refine J_aload_n (pc := 53) dX4_cheapest_53 rfl 0 rfl ?_
    obtain ⟨v11, hc12, h⟩ := obind_e h
    refine J_callV (g := mi_X4_codeNow) (ci := 4) (pc := 54) [] [.ref 53] mv_X4_codeNow w_1254 (k_X4_codeNow _ hc12) rfl (by decide) rfl rfl rfl ⟨⟨Nat.le_of_ble_eq_true rfl, Nat.le_of_ble_eq_true rfl⟩, Nat.le_of_ble_eq_true rfl, Nat.le_of_ble_eq_true rfl⟩ (Nat.le_of_ble_eq_true rfl) dX4_cheapest_54 (Jk_v rfl rfl fun hok13 => ?_)
    refine J_iconst (v := (0 : Int32)) (pc := 57) dX4_cheapest_57 (by decide) ?_
    obtain ⟨M14, hc15, h⟩ := obind_e h
    refine J_callV (g := mi_X4_cheapens) (ci := 4) (pc := 58) [.int v11, .int (0 : Int32)] [] mv_X4_cheapens w_1481 (k_X4_cheapens v11 (0 : Int32) _ hc15) rfl (by decide) rfl rfl rfl ⟨⟨Nat.le_of_ble_eq_true rfl, Nat.le_of_ble_eq_true rfl⟩, Nat.le_of_ble_eq_true rfl, Nat.le_of_ble_eq_true rfl⟩ (Nat.le_of_ble_eq_true rfl) dX4_cheapest_58 (Jk_0 rfl rfl ?_)
    refine J_iconst (v := (0 : Int32)) (pc := 61) dX4_cheapest_61 (by decide) ?_
    refine J_istore_n (pc := 62) dX4_cheapest_62 rfl (Nat.le_of_ble_eq_true rfl) [1, 0] rfl ?_
    refine J_LS [(0, .ref 53), (1, .int (0 : Int32))] [] rfl rfl ?_
    refine kL_X4_cheapest_L63 _ (fun M31 h => ?_) fuelN _ _ h
    refine J_aload_n (pc := 125) dX4_cheapest_125 rfl 0 rfl ?_
    obtain ⟨v32, hc33, h⟩ := obind_e h
    refine J_callV (g := mi_X4_leastEnd) (ci := 4) (pc := 126) [] [] mv_X4_leastEnd w_1457 (k_X4_leastEnd _ hc33) rfl (by decide) rfl rfl rfl ⟨⟨Nat.le_of_ble_eq_true rfl, Nat.le_of_ble_eq_true rfl⟩, Nat.le_of_ble_eq_true rfl, Nat.le_of_ble_eq_true rfl⟩ (Nat.le_of_ble_eq_true rfl) dX4_cheapest_126 (Jk_v rfl rfl fun hok34 => ?_)
    cases h
    exact J_ireturn dX4_cheapest_129 rfl rfl rfl rfl rfl
  · replace h := ifp c3 h
    refine J_iconst (v := (-1 : Int32)) (pc := 24) dX4_cheapest_24 (by decide) ?_
    cases h
    exact J_ireturn dX4_cheapest_25 rfl rfl rfl rfl rfl
set_option maxHeartbeats 4000000 in
set_option maxRecDepth 100000 in
theorem kL_X4_next_L12 {κ : Kx} {E : En} {Q : State → Prop} {ρ : Type} {r : ρ} (a1 : Int32) (M : Wd) (K79 : Int32 → Int32 → Option ρ) (K95 : Option ρ) (hK79 : ∀ (x3 : Int32) (x4 : Int32), K79 x3 x4 = some r → J κ E mi_X4_next Q 0 0 [(3, .int x3), (4, .int x4)] M 79 []) (hK95 : K95 = some r → J κ E mi_X4_next Q 0 0 [] M 95 []) : ∀ (m : Nat) (x2 : Int32), F_X4_next_L12 a1 M K79 K95 m x2 = some r → J κ E mi_X4_next Q 0 0 [(0, .ref 53), (1, .int a1), (2, .int x2)] M 12 [] := by
  intro m
  induction m with
  | zero => intro x2 h; exact (nomatch (show (none : Option ρ) = some r from h))
  | succ m ih =>
    intro x2 h
    unfold F_X4_next_L12 at h
    refine J_iload_n (pc := 12) dX4_next_12 rfl 2 rfl ?_
    refine J_bipush (v := (7 : Int32)) (pc := 13) dX4_next_13 (by decide) ?_
    refine J_aload_n (pc := 15) dX4_next_15 rfl 0 rfl ?_
    refine get_53_3 (pc := 16) w_1026 dX4_next_16 ?_
    refine J_iconst (v := (0 : Int32)) (pc := 19) dX4_next_19 (by decide) ?_
    refine J_iald (c := 55) (N := 82) (pc := 20) ja_55 (Nat.le_of_ble_eq_true rfl) (vpc rfl) dX4_next_20 ?_
    refine J_topi (x := M.1 55 (Int32.toNatClampNeg 0)) (y := (M.1 55 0)) (Eq.symm (a := M.1 55 (Int32.toNatClampNeg 0)) (show M.1 55 0 = (M.1 55 0) from rfl)) ?_
    refine J_imul (pc := 21) dX4_next_21 ?_
    refine J_icmp_ge (pc := 22) (tgt := 95) dX4_next_22 (by decide) (fun c7 => ?_) (fun c7 => ?_)
    · replace h := ifp c7 h
      refine J_sub [] rfl ?_
      exact hK95 h
    · replace h := ifn c7 h
      refine J_iload_n (pc := 25) dX4_next_25 rfl 2 rfl ?_
      refine J_bipush (v := (7 : Int32)) (pc := 26) dX4_next_26 (by decide) ?_
      refine J_idiv (pc := 28) dX4_next_28 (by decide) ?_
      obtain ⟨v8, e9, h⟩ := bnd_e h
      refine J_topi e9 ?_
      refine J_istore_n (pc := 29) dX4_next_29 rfl (Nat.le_of_ble_eq_true rfl) [1, 2, 3, 0] rfl ?_
      refine J_iload_n (pc := 30) dX4_next_30 rfl 2 rfl ?_
      refine J_bipush (v := (7 : Int32)) (pc := 31) dX4_next_31 (by decide) ?_
      refine J_irem (pc := 33) dX4_next_33 (by decide) ?_
      refine J_iconst (v := (3 : Int32)) (pc := 34) dX4_next_34 (by decide) ?_
      refine J_isub (pc := 35) dX4_next_35 ?_
      obtain ⟨v10, e11, h⟩ := bnd_e h
      refine J_topi e11 ?_
      refine J_istore (pc := 36) dX4_next_36 (Nat.le_of_ble_eq_true rfl) [1, 2, 3, 4, 0] rfl ?_
      refine J_LS [(0, .ref 53), (1, .int a1), (2, .int x2), (3, .int v8), (4, .int v10)] [] rfl rfl ?_
      refine J_iload (pc := 38) dX4_next_38 4 rfl ?_
      refine J_if_eq (pc := 40) (tgt := 89) dX4_next_40 (by decide) (fun c12 => ?_) (fun c12 => ?_)
      · replace h := ifp c12 h
        obtain ⟨v13, e14, h⟩ := bnd_e h
        refine J_iinc (v := v13) (pc := 89) dX4_next_89 2 rfl (by rw [e14]; rfl) (Nat.le_of_ble_eq_true rfl) [1, 2, 0, 3, 4] rfl ?_
        refine J_goto (pc := 92) (tgt := 12) dX4_next_92 (by decide) ?_
        refine J_sub [0, 1, 2] rfl ?_
        exact ih _ h
      · replace h := ifn c12 h
        refine J_aload_n (pc := 43) dX4_next_43 rfl 0 rfl ?_
        refine J_iload_n (pc := 44) dX4_next_44 rfl 3 rfl ?_
        refine J_iload (pc := 45) dX4_next_45 4 rfl ?_
        obtain ⟨v15, hc16, h⟩ := obind_e h
        refine J_callV (g := mi_X4_canSlide) (ci := 4) (pc := 47) [.int v8, .int v10] [] mv_X4_canSlide w_1174 (k_X4_canSlide v8 v10 _ hc16) rfl (by decide) rfl rfl rfl ⟨⟨Nat.le_of_ble_eq_true rfl, Nat.le_of_ble_eq_true rfl⟩, Nat.le_of_ble_eq_true rfl, Nat.le_of_ble_eq_true rfl⟩ (Nat.le_of_ble_eq_true rfl) dX4_next_47 (Jk_v rfl rfl fun hok17 => ?_)
        refine J_if_eq (pc := 50) (tgt := 89) dX4_next_50 (by decide) (fun c18 => ?_) (fun c18 => ?_)
        · replace h := ifp c18 h
          obtain ⟨v19, e20, h⟩ := bnd_e h
          refine J_iinc (v := v19) (pc := 89) dX4_next_89 2 rfl (by rw [e20]; rfl) (Nat.le_of_ble_eq_true rfl) [1, 2, 0, 3, 4] rfl ?_
          refine J_goto (pc := 92) (tgt := 12) dX4_next_92 (by decide) ?_
          refine J_sub [0, 1, 2] rfl ?_
          exact ih _ h
        · replace h := ifn c18 h
          refine J_aload_n (pc := 53) dX4_next_53 rfl 0 rfl ?_
          obtain ⟨v21, hc22, h⟩ := obind_e h
          refine J_callV (g := mi_X4_codeNow) (ci := 4) (pc := 54) [] [] mv_X4_codeNow w_1254 (k_X4_codeNow _ hc22) rfl (by decide) rfl rfl rfl ⟨⟨Nat.le_of_ble_eq_true rfl, Nat.le_of_ble_eq_true rfl⟩, Nat.le_of_ble_eq_true rfl, Nat.le_of_ble_eq_true rfl⟩ (Nat.le_of_ble_eq_true rfl) dX4_next_54 (Jk_v rfl rfl fun hok23 => ?_)
          refine J_iload (pc := 57) dX4_next_57 4 rfl ?_
          refine J_iconst (v := (2 : Int32)) (pc := 59) dX4_next_59 (by decide) ?_
          refine J_iload_n (pc := 60) dX4_next_60 rfl 3 rfl ?_
          refine J_imul (pc := 61) dX4_next_61 ?_
          refine J_ishl (pc := 62) dX4_next_62 ?_
          refine J_iadd (pc := 63) dX4_next_63 ?_
          obtain ⟨v24, e25, h⟩ := bnd_e h
          refine J_topi e25 ?_
          refine J_istore (pc := 64) dX4_next_64 (Nat.le_of_ble_eq_true rfl) [1, 2, 3, 4, 5, 0] rfl ?_
          refine J_aload_n (pc := 66) dX4_next_66 rfl 0 rfl ?_
          refine get_53_11 (pc := 67) w_1034 dX4_next_67 ?_
          refine J_iload (pc := 70) dX4_next_70 5 rfl ?_
          obtain ⟨v26, e27, hk28, h⟩ := ldi_e h
          refine J_iald (c := 59) (N := 4096) (pc := 72) ja_59 (Nat.le_of_ble_eq_true rfl) hk28 dX4_next_72 ?_
          refine J_topi e27 ?_
          refine J_iload_n (pc := 73) dX4_next_73 rfl 1 rfl ?_
          refine J_iconst (v := (1 : Int32)) (pc := 74) dX4_next_74 (by decide) ?_
          refine J_isub (pc := 75) dX4_next_75 ?_
          refine J_icmp_ne (pc := 76) (tgt := 89) dX4_next_76 (by decide) (fun c29 => ?_) (fun c29 => ?_)
          · replace h := ifn c29 h
            obtain ⟨v30, e31, h⟩ := bnd_e h
            refine J_iinc (v := v30) (pc := 89) dX4_next_89 2 rfl (by rw [e31]; rfl) (Nat.le_of_ble_eq_true rfl) [1, 2, 0, 3, 4, 5] rfl ?_
            refine J_LS [(0, .ref 53), (1, .int a1), (2, .int v30), (3, .int v8), (4, .int v10), (5, .int v24)] [] rfl rfl ?_
            refine J_goto (pc := 92) (tgt := 12) dX4_next_92 (by decide) ?_
            refine J_sub [0, 1, 2] rfl ?_
            exact ih _ h
          · replace h := ifp c29 h
            refine J_sub [3, 4] rfl ?_
            exact hK79 _ _ h
set_option maxHeartbeats 4000000 in
set_option maxRecDepth 100000 in
theorem k_X4_next {E : En} (M : Wd) {r : Int32} (h : F_X4_next M = some r) : Con E mi_X4_next [.ref 53] M (.inl (some (.int r))) M := by
  unfold F_X4_next at h
  refine Con.of (by decide) rfl (Nat.le_of_ble_eq_true rfl) (fun κ => ?_)
  show J κ E mi_X4_next _ 0 0 [(0, .ref 53)] M 0 []
  refine J_aload_n (pc := 0) dX4_next_0 rfl 0 rfl ?_
  refine get_53_11 (pc := 1) w_1034 dX4_next_1 ?_
  refine J_aload_n (pc := 4) dX4_next_4 rfl 0 rfl ?_
  obtain ⟨v1, hc2, h⟩ := obind_e h
  refine J_callV (g := mi_X4_codeNow) (ci := 4) (pc := 5) [] [.ref 59] mv_X4_codeNow w_1254 (k_X4_codeNow _ hc2) rfl (by decide) rfl rfl rfl ⟨⟨Nat.le_of_ble_eq_true rfl, Nat.le_of_ble_eq_true rfl⟩, Nat.le_of_ble_eq_true rfl, Nat.le_of_ble_eq_true rfl⟩ (Nat.le_of_ble_eq_true rfl) dX4_next_5 (Jk_v rfl rfl fun hok3 => ?_)
  obtain ⟨v4, e5, hk6, h⟩ := ldi_e h
  refine J_iald (c := 59) (N := 4096) (pc := 8) ja_59 (Nat.le_of_ble_eq_true rfl) hk6 dX4_next_8 ?_
  refine J_topi e5 ?_
  refine J_istore_n (pc := 9) dX4_next_9 rfl (Nat.le_of_ble_eq_true rfl) [1, 0] rfl ?_
  refine J_iconst (v := (0 : Int32)) (pc := 10) dX4_next_10 (by decide) ?_
  refine J_istore_n (pc := 11) dX4_next_11 rfl (Nat.le_of_ble_eq_true rfl) [1, 2, 0] rfl ?_
  refine J_LS [(0, .ref 53), (1, .int v4), (2, .int (0 : Int32))] [] rfl rfl ?_
  refine kL_X4_next_L12 _ _ _ _ (fun v32 v33 h => ?_) (fun h => ?_) fuelN _ h
  · refine J_bipush (v := (8 : Int32)) (pc := 79) dX4_next_79 (by decide) ?_
    refine J_iload_n (pc := 81) dX4_next_81 rfl 0 rfl ?_
    refine J_imul (pc := 82) dX4_next_82 ?_
    refine J_iload (pc := 83) dX4_next_83 1 rfl ?_
    refine J_iadd (pc := 85) dX4_next_85 ?_
    refine J_iconst (v := (3 : Int32)) (pc := 86) dX4_next_86 (by decide) ?_
    refine J_iadd (pc := 87) dX4_next_87 ?_
    cases h
    exact J_ireturn dX4_next_88 rfl rfl rfl rfl rfl
  · refine J_iconst (v := (-1 : Int32)) (pc := 95) dX4_next_95 (by decide) ?_
    cases h
    exact J_ireturn dX4_next_96 rfl rfl rfl rfl rfl
set_option maxHeartbeats 4000000 in
set_option maxRecDepth 100000 in
theorem k_X4_planned {E : En} (M : Wd) {r : Int32} {M' : Wd} (h : F_X4_planned M = some (r, M')) : Con E mi_X4_planned [.ref 53] M (.inl (some (.int r))) M' := by
  unfold F_X4_planned at h
  refine Con.of (by decide) rfl (Nat.le_of_ble_eq_true rfl) (fun κ => ?_)
  show J κ E mi_X4_planned _ 0 0 [(0, .ref 53)] M 0 []
  refine J_aload_n (pc := 0) dX4_planned_0 rfl 0 rfl ?_
  refine J_aload_n (pc := 1) dX4_planned_1 rfl 0 rfl ?_
  refine get_53_3 (pc := 2) w_1026 dX4_planned_2 ?_
  refine J_iconst (v := (0 : Int32)) (pc := 5) dX4_planned_5 (by decide) ?_
  refine J_iald (c := 55) (N := 82) (pc := 6) ja_55 (Nat.le_of_ble_eq_true rfl) (vpc rfl) dX4_planned_6 ?_
  refine J_topi (x := M.1 55 (Int32.toNatClampNeg 0)) (y := (M.1 55 0)) (Eq.symm (a := M.1 55 (Int32.toNatClampNeg 0)) (show M.1 55 0 = (M.1 55 0) from rfl)) ?_
  refine J_aload_n (pc := 7) dX4_planned_7 rfl 0 rfl ?_
  refine get_53_3 (pc := 8) w_1026 dX4_planned_8 ?_
  refine J_bipush (v := (19 : Int32)) (pc := 11) dX4_planned_11 (by decide) ?_
  refine J_iald (c := 55) (N := 82) (pc := 13) ja_55 (Nat.le_of_ble_eq_true rfl) (vpc rfl) dX4_planned_13 ?_
  refine J_topi (x := M.1 55 (Int32.toNatClampNeg 19)) (y := (M.1 55 19)) (Eq.symm (a := M.1 55 (Int32.toNatClampNeg 19)) (show M.1 55 19 = (M.1 55 19) from rfl)) ?_
  obtain ⟨M1, hc2, h⟩ := obind_e h
  refine J_callV (g := mi_X4_prepares) (ci := 4) (pc := 14) [.int (M.1 55 0), .int (M.1 55 19)] [] mv_X4_prepares w_1218 (k_X4_prepares (M.1 55 0) (M.1 55 19) _ hc2) rfl (by decide) rfl rfl rfl ⟨⟨Nat.le_of_ble_eq_true rfl, Nat.le_of_ble_eq_true rfl⟩, Nat.le_of_ble_eq_true rfl, Nat.le_of_ble_eq_true rfl⟩ (Nat.le_of_ble_eq_true rfl) dX4_planned_14 (Jk_0 rfl rfl ?_)
  refine J_aload_n (pc := 17) dX4_planned_17 rfl 0 rfl ?_
  refine get_53_9 (pc := 18) w_1032 dX4_planned_18 ?_
  refine J_if_ne (pc := 21) (tgt := 26) dX4_planned_21 (by decide) (fun c3 => ?_) (fun c3 => ?_)
  · replace h := ifn c3 h
    refine J_aload_n (pc := 26) dX4_planned_26 rfl 0 rfl ?_
    obtain ⟨M4, hc5, h⟩ := obind_e h
    refine J_callV (g := mi_X4_fromEnds) (ci := 4) (pc := 27) [] [] mv_X4_fromEnds w_1222 (k_X4_fromEnds _ hc5) rfl (by decide) rfl rfl rfl ⟨⟨Nat.le_of_ble_eq_true rfl, Nat.le_of_ble_eq_true rfl⟩, Nat.le_of_ble_eq_true rfl, Nat.le_of_ble_eq_true rfl⟩ (Nat.le_of_ble_eq_true rfl) dX4_planned_27 (Jk_0 rfl rfl ?_)
    refine J_aload_n (pc := 30) dX4_planned_30 rfl 0 rfl ?_
    refine get_53_11 (pc := 31) w_1034 dX4_planned_31 ?_
    refine J_aload_n (pc := 34) dX4_planned_34 rfl 0 rfl ?_
    obtain ⟨v6, hc7, h⟩ := obind_e h
    refine J_callV (g := mi_X4_codeNow) (ci := 4) (pc := 35) [] [.ref 59] mv_X4_codeNow w_1254 (k_X4_codeNow _ hc7) rfl (by decide) rfl rfl rfl ⟨⟨Nat.le_of_ble_eq_true rfl, Nat.le_of_ble_eq_true rfl⟩, Nat.le_of_ble_eq_true rfl, Nat.le_of_ble_eq_true rfl⟩ (Nat.le_of_ble_eq_true rfl) dX4_planned_35 (Jk_v rfl rfl fun hok8 => ?_)
    obtain ⟨v9, e10, hk11, h⟩ := ldi_e h
    refine J_iald (c := 59) (N := 4096) (pc := 38) ja_59 (Nat.le_of_ble_eq_true rfl) hk11 dX4_planned_38 ?_
    refine J_topi e10 ?_
    cases h
    exact J_ireturn dX4_planned_39 rfl rfl rfl rfl rfl
  · replace h := ifp c3 h
    refine J_iconst (v := (-1 : Int32)) (pc := 24) dX4_planned_24 (by decide) ?_
    cases h
    exact J_ireturn dX4_planned_25 rfl rfl rfl rfl rfl
set_option maxHeartbeats 4000000 in
set_option maxRecDepth 100000 in
theorem kL_X4_saves_L10 {κ : Kx} {E : En} {Q : State → Prop} {ρ : Type} {r : ρ} (K38 : Wd → Option ρ) (hK38 : ∀ (M : Wd), K38 M = some r → J κ E mi_X4_saves Q 0 0 [(0, .ref 53)] M 38 []) : ∀ (m : Nat) (x1 : Int32) (M : Wd), F_X4_saves_L10 K38 m x1 M = some r → J κ E mi_X4_saves Q 0 0 [(0, .ref 53), (1, .int x1)] M 10 [] := by
  intro m
  induction m with
  | zero => intro x1 M h; exact (nomatch (show (none : Option ρ) = some r from h))
  | succ m ih =>
    intro x1 M h
    unfold F_X4_saves_L10 at h
    refine J_iload_n (pc := 10) dX4_saves_10 rfl 1 rfl ?_
    refine J_sipush (v := (328 : Int32)) (pc := 11) dX4_saves_11 (by decide) ?_
    refine J_icmp_ge (pc := 14) (tgt := 38) dX4_saves_14 (by decide) (fun c3 => ?_) (fun c3 => ?_)
    · replace h := ifp c3 h
      refine J_sub [0] rfl ?_
      exact hK38 _ h
    · replace h := ifn c3 h
      refine J_aload_n (pc := 17) dX4_saves_17 rfl 0 rfl ?_
      refine get_53_4 (pc := 18) w_1027 dX4_saves_18 ?_
      refine J_iload_n (pc := 21) dX4_saves_21 rfl 1 rfl ?_
      refine J_aload_n (pc := 22) dX4_saves_22 rfl 0 rfl ?_
      refine get_53_4 (pc := 23) w_1027 dX4_saves_23 ?_
      refine J_iload_n (pc := 26) dX4_saves_26 rfl 1 rfl ?_
      refine J_bipush (v := (82 : Int32)) (pc := 27) dX4_saves_27 (by decide) ?_
      refine J_iadd (pc := 29) dX4_saves_29 ?_
      obtain ⟨v4, e5, hk6, h⟩ := ldi_e h
      refine J_iald (c := 56) (N := 410) (pc := 30) ja_56 (Nat.le_of_ble_eq_true rfl) hk6 dX4_saves_30 ?_
      refine J_topi e5 ?_
      obtain ⟨hk7, h⟩ := inb_e h
      refine J_iast (c := 56) (N := 410) (pc := 31) (fun _ => ja_56) (Nat.le_of_ble_eq_true rfl) hk7 dX4_saves_31 ?_
      obtain ⟨v8, e9, h⟩ := bnd_e h
      refine J_iinc (v := v8) (pc := 32) dX4_saves_32 1 rfl (by rw [e9]; rfl) (Nat.le_of_ble_eq_true rfl) [1, 0] rfl ?_
      refine J_goto (pc := 35) (tgt := 10) dX4_saves_35 (by decide) ?_
      exact ih _ _ h
set_option maxHeartbeats 4000000 in
set_option maxRecDepth 100000 in
theorem k_X4_saves {E : En} (M : Wd) {M' : Wd} (h : F_X4_saves M = some M') : Con E mi_X4_saves [.ref 53] M (.inl none) M' := by
  unfold F_X4_saves at h
  refine Con.of (by decide) rfl (Nat.le_of_ble_eq_true rfl) (fun κ => ?_)
  show J κ E mi_X4_saves _ 0 0 [(0, .ref 53)] M 0 []
  refine J_aload_n (pc := 0) dX4_saves_0 rfl 0 rfl ?_
  refine get_53_5 (pc := 1) w_1028 dX4_saves_1 ?_
  refine J_iconst (v := (5 : Int32)) (pc := 4) dX4_saves_4 (by decide) ?_
  obtain ⟨M1, hv11, h⟩ := obind_e h
  refine J_join [(0, .ref 53)] M1 48 [] ?_ (fun hJ => ?_)
  · refine J_aload_n (pc := 48) dX4_saves_48 rfl 0 rfl ?_
    refine get_53_3 (pc := 49) w_1026 dX4_saves_49 ?_
    refine J_iconst (v := (0 : Int32)) (pc := 52) dX4_saves_52 (by decide) ?_
    refine J_aload_n (pc := 53) dX4_saves_53 rfl 0 rfl ?_
    refine get_53_4 (pc := 54) w_1027 dX4_saves_54 ?_
    refine J_bipush (v := (82 : Int32)) (pc := 57) dX4_saves_57 (by decide) ?_
    refine J_aload_n (pc := 59) dX4_saves_59 rfl 0 rfl ?_
    refine get_53_5 (pc := 60) w_1028 dX4_saves_60 ?_
    refine J_imul (pc := 63) dX4_saves_63 ?_
    obtain ⟨M12, hc13, h⟩ := obind_e h
    refine J_callS (g := mi_X4_copyState) (pc := 64) [.ref 55, .int (0 : Int32), .ref 56, .int ((82 : Int32) * (M1.1 53 5))] [] ms_X4_copyState w_1128 (k_X4_copyState_55_56 (0 : Int32) ((82 : Int32) * (M1.1 53 5)) _ hc13) rfl rfl ⟨⟨Nat.le_of_ble_eq_true rfl, Nat.le_of_ble_eq_true rfl⟩, Nat.le_of_ble_eq_true rfl, Nat.le_of_ble_eq_true rfl⟩ (Nat.le_of_ble_eq_true rfl) dX4_saves_64 (Jk_0 rfl rfl ?_)
    refine J_aload_n (pc := 67) dX4_saves_67 rfl 0 rfl ?_
    refine J_dup (pc := 68) dX4_saves_68 rfl ?_
    refine get_53_5 (pc := 69) w_1028 dX4_saves_69 ?_
    refine J_iconst (v := (1 : Int32)) (pc := 72) dX4_saves_72 (by decide) ?_
    refine J_iadd (pc := 73) dX4_saves_73 ?_
    refine put_53_5 (pc := 74) w_1028 dX4_saves_74 ?_
    cases h
    exact J_return dX4_saves_77 rfl rfl rfl rfl rfl
  · replace h := hv11
    refine J_icmp_ne (pc := 5) (tgt := 48) dX4_saves_5 (by decide) (fun c2 => ?_) (fun c2 => ?_)
    · replace h := ifn c2 h
      cases h
      exact hJ
    · replace h := ifp c2 h
      refine J_iconst (v := (0 : Int32)) (pc := 8) dX4_saves_8 (by decide) ?_
      refine J_istore_n (pc := 9) dX4_saves_9 rfl (Nat.le_of_ble_eq_true rfl) [1, 0] rfl ?_
      refine kL_X4_saves_L10 _ (fun M10 h => ?_) fuelN _ _ h
      refine J_aload_n (pc := 38) dX4_saves_38 rfl 0 rfl ?_
      refine J_dup (pc := 39) dX4_saves_39 rfl ?_
      refine get_53_5 (pc := 40) w_1028 dX4_saves_40 ?_
      refine J_iconst (v := (1 : Int32)) (pc := 43) dX4_saves_43 (by decide) ?_
      refine J_isub (pc := 44) dX4_saves_44 ?_
      refine put_53_5 (pc := 45) w_1028 dX4_saves_45 ?_
      cases h
      exact hJ
set_option maxHeartbeats 4000000 in
set_option maxRecDepth 100000 in
theorem k_X4_wrongCar {E : En} (a1 : Int32) (a2 : Int32) (a3 : Int32) (M : Wd) {r : Int32} (h : F_X4_wrongCar a1 a2 a3 M = some r) : Con E mi_X4_wrongCar [.ref 53, .int a1, .int a2, .int a3] M (.inl (some (.int r))) M := by
  unfold F_X4_wrongCar at h
  refine Con.of (by decide) rfl (Nat.le_of_ble_eq_true rfl) (fun κ => ?_)
  show J κ E mi_X4_wrongCar _ 0 0 [(0, .ref 53), (1, .int a1), (2, .int a2), (3, .int a3)] M 0 []
  refine J_iload_n (pc := 0) dX4_wrongCar_0 rfl 1 rfl ?_
  refine J_i2l (pc := 1) dX4_wrongCar_1 ?_
  refine J_lconst (v := (0 : Int64)) (pc := 2) dX4_wrongCar_2 (by decide) ?_
  refine J_ldc2 (pc := 3) w_1103 dX4_wrongCar_3 ?_
  refine J_callS (g := mi_X4_in) (pc := 6) [.long a1.toInt64, .long (0 : Int64), .long (9 : Int64)] [] ms_X4_in w_1104 (k_X4_in a1.toInt64 (0 : Int64) (9 : Int64) _) rfl rfl ⟨⟨Nat.le_of_ble_eq_true rfl, Nat.le_of_ble_eq_true rfl⟩, Nat.le_of_ble_eq_true rfl, Nat.le_of_ble_eq_true rfl⟩ (Nat.le_of_ble_eq_true rfl) dX4_wrongCar_6 (Jk_v rfl rfl fun hok1 => ?_)
  refine J_if_ne (pc := 9) (tgt := 14) dX4_wrongCar_9 (by decide) (fun c2 => ?_) (fun c2 => ?_)
  · replace h := ifn c2 h
    refine J_iload_n (pc := 14) dX4_wrongCar_14 rfl 3 rfl ?_
    refine J_i2l (pc := 15) dX4_wrongCar_15 ?_
    refine J_ldc2 (pc := 16) w_1107 dX4_wrongCar_16 ?_
    refine J_ldc2 (pc := 19) w_1108 dX4_wrongCar_19 ?_
    refine J_callS (g := mi_X4_in) (pc := 22) [.long a3.toInt64, .long (2 : Int64), .long (3 : Int64)] [] ms_X4_in w_1104 (k_X4_in a3.toInt64 (2 : Int64) (3 : Int64) _) rfl rfl ⟨⟨Nat.le_of_ble_eq_true rfl, Nat.le_of_ble_eq_true rfl⟩, Nat.le_of_ble_eq_true rfl, Nat.le_of_ble_eq_true rfl⟩ (Nat.le_of_ble_eq_true rfl) dX4_wrongCar_22 (Jk_v rfl rfl fun hok3 => ?_)
    refine J_if_eq (pc := 25) (tgt := 41) dX4_wrongCar_25 (by decide) (fun c4 => ?_) (fun c4 => ?_)
    · replace h := ifp c4 h
      refine J_iconst (v := (2 : Int32)) (pc := 41) dX4_wrongCar_41 (by decide) ?_
      cases h
      exact J_ireturn dX4_wrongCar_42 rfl rfl rfl rfl rfl
    · replace h := ifn c4 h
      refine J_iload_n (pc := 28) dX4_wrongCar_28 rfl 2 rfl ?_
      refine J_i2l (pc := 29) dX4_wrongCar_29 ?_
      refine J_lconst (v := (0 : Int64)) (pc := 30) dX4_wrongCar_30 (by decide) ?_
      refine J_iconst (v := (5 : Int32)) (pc := 31) dX4_wrongCar_31 (by decide) ?_
      refine J_iload_n (pc := 32) dX4_wrongCar_32 rfl 3 rfl ?_
      refine J_isub (pc := 33) dX4_wrongCar_33 ?_
      refine J_i2l (pc := 34) dX4_wrongCar_34 ?_
      refine J_callS (g := mi_X4_in) (pc := 35) [.long a2.toInt64, .long (0 : Int64), .long ((5 : Int32) - a3).toInt64] [] ms_X4_in w_1104 (k_X4_in a2.toInt64 (0 : Int64) ((5 : Int32) - a3).toInt64 _) rfl rfl ⟨⟨Nat.le_of_ble_eq_true rfl, Nat.le_of_ble_eq_true rfl⟩, Nat.le_of_ble_eq_true rfl, Nat.le_of_ble_eq_true rfl⟩ (Nat.le_of_ble_eq_true rfl) dX4_wrongCar_35 (Jk_v rfl rfl fun hok5 => ?_)
      refine J_if_ne (pc := 38) (tgt := 43) dX4_wrongCar_38 (by decide) (fun c6 => ?_) (fun c6 => ?_)
      · replace h := ifn c6 h
        refine J_aload_n (pc := 43) dX4_wrongCar_43 rfl 0 rfl ?_
        refine get_53_3 (pc := 44) w_1026 dX4_wrongCar_44 ?_
        refine J_iconst (v := (0 : Int32)) (pc := 47) dX4_wrongCar_47 (by decide) ?_
        refine J_iald (c := 55) (N := 82) (pc := 48) ja_55 (Nat.le_of_ble_eq_true rfl) (vpc rfl) dX4_wrongCar_48 ?_
        refine J_topi (x := M.1 55 (Int32.toNatClampNeg 0)) (y := (M.1 55 0)) (Eq.symm (a := M.1 55 (Int32.toNatClampNeg 0)) (show M.1 55 0 = (M.1 55 0) from rfl)) ?_
        refine J_bipush (v := (6 : Int32)) (pc := 49) dX4_wrongCar_49 (by decide) ?_
        refine J_icmp_eq (pc := 51) (tgt := 82) dX4_wrongCar_51 (by decide) (fun c7 => ?_) (fun c7 => ?_)
        · replace h := ifp c7 h
          refine J_iconst (v := (3 : Int32)) (pc := 82) dX4_wrongCar_82 (by decide) ?_
          refine J_goto (pc := 83) (tgt := 87) dX4_wrongCar_83 (by decide) ?_
          cases h
          exact J_ireturn dX4_wrongCar_87 rfl rfl rfl rfl rfl
        · replace h := ifn c7 h
          refine J_iload_n (pc := 54) dX4_wrongCar_54 rfl 1 rfl ?_
          refine J_iload_n (pc := 55) dX4_wrongCar_55 rfl 2 rfl ?_
          refine J_iload_n (pc := 56) dX4_wrongCar_56 rfl 3 rfl ?_
          obtain ⟨v8, hc9, h⟩ := obind_e h
          refine J_callS (g := mi_X4_cells) (pc := 57) [.int a1, .int a2, .int a3] [] ms_X4_cells w_1109 (k_X4_cells a1 a2 a3 _ hc9) rfl rfl ⟨⟨Nat.le_of_ble_eq_true rfl, Nat.le_of_ble_eq_true rfl⟩, Nat.le_of_ble_eq_true rfl, Nat.le_of_ble_eq_true rfl⟩ (Nat.le_of_ble_eq_true rfl) dX4_wrongCar_57 (Jk_v rfl rfl fun hok10 => ?_)
          refine J_aload_n (pc := 60) dX4_wrongCar_60 rfl 0 rfl ?_
          obtain ⟨v11, hc12, h⟩ := obind_e h
          refine J_callV (g := mi_X4_occupied) (ci := 4) (pc := 61) [] [.int v8] mv_X4_occupied w_1112 (k_X4_occupied _ hc12) rfl (by decide) rfl rfl rfl ⟨⟨Nat.le_of_ble_eq_true rfl, Nat.le_of_ble_eq_true rfl⟩, Nat.le_of_ble_eq_true rfl, Nat.le_of_ble_eq_true rfl⟩ (Nat.le_of_ble_eq_true rfl) dX4_wrongCar_61 (Jk_v rfl rfl fun hok13 => ?_)
          refine J_iand (pc := 64) dX4_wrongCar_64 ?_
          refine J_if_ne (pc := 65) (tgt := 82) dX4_wrongCar_65 (by decide) (fun c14 => ?_) (fun c14 => ?_)
          · replace h := ifn c14 h
            refine J_iconst (v := (3 : Int32)) (pc := 82) dX4_wrongCar_82 (by decide) ?_
            refine J_goto (pc := 83) (tgt := 87) dX4_wrongCar_83 (by decide) ?_
            cases h
            exact J_ireturn dX4_wrongCar_87 rfl rfl rfl rfl rfl
          · replace h := ifp c14 h
            refine J_aload_n (pc := 68) dX4_wrongCar_68 rfl 0 rfl ?_
            refine get_53_3 (pc := 69) w_1026 dX4_wrongCar_69 ?_
            refine J_iconst (v := (0 : Int32)) (pc := 72) dX4_wrongCar_72 (by decide) ?_
            refine J_iald (c := 55) (N := 82) (pc := 73) ja_55 (Nat.le_of_ble_eq_true rfl) (vpc rfl) dX4_wrongCar_73 ?_
            refine J_topi (x := M.1 55 (Int32.toNatClampNeg 0)) (y := (M.1 55 0)) (Eq.symm (a := M.1 55 (Int32.toNatClampNeg 0)) (show M.1 55 0 = (M.1 55 0) from rfl)) ?_
            refine J_if_ne (pc := 74) (tgt := 86) dX4_wrongCar_74 (by decide) (fun c15 => ?_) (fun c15 => ?_)
            · replace h := ifn c15 h
              refine J_iconst (v := (0 : Int32)) (pc := 86) dX4_wrongCar_86 (by decide) ?_
              cases h
              exact J_ireturn dX4_wrongCar_87 rfl rfl rfl rfl rfl
            · replace h := ifp c15 h
              refine J_iload_n (pc := 77) dX4_wrongCar_77 rfl 1 rfl ?_
              refine J_iconst (v := (5 : Int32)) (pc := 78) dX4_wrongCar_78 (by decide) ?_
              refine J_icmp_lt (pc := 79) (tgt := 86) dX4_wrongCar_79 (by decide) (fun c16 => ?_) (fun c16 => ?_)
              · replace h := ifp c16 h
                refine J_iconst (v := (0 : Int32)) (pc := 86) dX4_wrongCar_86 (by decide) ?_
                cases h
                exact J_ireturn dX4_wrongCar_87 rfl rfl rfl rfl rfl
              · replace h := ifn c16 h
                refine J_iconst (v := (3 : Int32)) (pc := 82) dX4_wrongCar_82 (by decide) ?_
                refine J_goto (pc := 83) (tgt := 87) dX4_wrongCar_83 (by decide) ?_
                cases h
                exact J_ireturn dX4_wrongCar_87 rfl rfl rfl rfl rfl
      · replace h := ifp c6 h
        refine J_iconst (v := (2 : Int32)) (pc := 41) dX4_wrongCar_41 (by decide) ?_
        cases h
        exact J_ireturn dX4_wrongCar_42 rfl rfl rfl rfl rfl
  · replace h := ifp c2 h
    refine J_iconst (v := (1 : Int32)) (pc := 12) dX4_wrongCar_12 (by decide) ?_
    cases h
    exact J_ireturn dX4_wrongCar_13 rfl rfl rfl rfl rfl
set_option maxHeartbeats 4000000 in
set_option maxRecDepth 100000 in
theorem k_X4_addOn {E : En} (a1 : Int32) (a2 : Int32) (a3 : Int32) (M : Wd) {r : Int32} {M' : Wd} (h : F_X4_addOn a1 a2 a3 M = some (r, M')) : Con E mi_X4_addOn [.ref 53, .int a1, .int a2, .int a3] M (.inl (some (.int r))) M' := by
  unfold F_X4_addOn at h
  refine Con.of (by decide) rfl (Nat.le_of_ble_eq_true rfl) (fun κ => ?_)
  show J κ E mi_X4_addOn _ 0 0 [(0, .ref 53), (1, .int a1), (2, .int a2), (3, .int a3)] M 0 []
  refine J_aload_n (pc := 0) dX4_addOn_0 rfl 0 rfl ?_
  refine get_53_3 (pc := 1) w_1026 dX4_addOn_1 ?_
  refine J_iconst (v := (0 : Int32)) (pc := 4) dX4_addOn_4 (by decide) ?_
  refine J_iald (c := 55) (N := 82) (pc := 5) ja_55 (Nat.le_of_ble_eq_true rfl) (vpc rfl) dX4_addOn_5 ?_
  refine J_topi (x := M.1 55 (Int32.toNatClampNeg 0)) (y := (M.1 55 0)) (Eq.symm (a := M.1 55 (Int32.toNatClampNeg 0)) (show M.1 55 0 = (M.1 55 0) from rfl)) ?_
  obtain ⟨v1, e2, h⟩ := bnd_e h
  refine J_topi e2 ?_
  refine J_istore (pc := 6) dX4_addOn_6 (Nat.le_of_ble_eq_true rfl) [1, 2, 3, 4, 0] rfl ?_
  refine J_aload_n (pc := 8) dX4_addOn_8 rfl 0 rfl ?_
  refine get_53_3 (pc := 9) w_1026 dX4_addOn_9 ?_
  refine J_iconst (v := (1 : Int32)) (pc := 12) dX4_addOn_12 (by decide) ?_
  refine J_iload (pc := 13) dX4_addOn_13 4 rfl ?_
  refine J_iadd (pc := 15) dX4_addOn_15 ?_
  refine J_iload_n (pc := 16) dX4_addOn_16 rfl 1 rfl ?_
  obtain ⟨hk3, h⟩ := inb_e h
  refine J_iast (c := 55) (N := 82) (pc := 17) (fun _ => ja_55) (Nat.le_of_ble_eq_true rfl) hk3 dX4_addOn_17 ?_
  refine J_aload_n (pc := 18) dX4_addOn_18 rfl 0 rfl ?_
  refine get_53_3 (pc := 19) w_1026 dX4_addOn_19 ?_
  refine J_bipush (v := (7 : Int32)) (pc := 22) dX4_addOn_22 (by decide) ?_
  refine J_iload (pc := 24) dX4_addOn_24 4 rfl ?_
  refine J_iadd (pc := 26) dX4_addOn_26 ?_
  refine J_iload_n (pc := 27) dX4_addOn_27 rfl 2 rfl ?_
  obtain ⟨hk4, h⟩ := inb_e h
  refine J_iast (c := 55) (N := 82) (pc := 28) (fun _ => ja_55) (Nat.le_of_ble_eq_true rfl) hk4 dX4_addOn_28 ?_
  refine J_aload_n (pc := 29) dX4_addOn_29 rfl 0 rfl ?_
  refine get_53_3 (pc := 30) w_1026 dX4_addOn_30 ?_
  refine J_bipush (v := (13 : Int32)) (pc := 33) dX4_addOn_33 (by decide) ?_
  refine J_iload (pc := 35) dX4_addOn_35 4 rfl ?_
  refine J_iadd (pc := 37) dX4_addOn_37 ?_
  refine J_iload_n (pc := 38) dX4_addOn_38 rfl 3 rfl ?_
  obtain ⟨hk5, h⟩ := inb_e h
  refine J_iast (c := 55) (N := 82) (pc := 39) (fun _ => ja_55) (Nat.le_of_ble_eq_true rfl) hk5 dX4_addOn_39 ?_
  refine J_aload_n (pc := 40) dX4_addOn_40 rfl 0 rfl ?_
  refine get_53_3 (pc := 41) w_1026 dX4_addOn_41 ?_
  refine J_iconst (v := (0 : Int32)) (pc := 44) dX4_addOn_44 (by decide) ?_
  refine J_dup2 (pc := 45) dX4_addOn_45 rfl rfl ?_
  refine J_iald (c := 55) (N := 82) (pc := 46) ja_55 (Nat.le_of_ble_eq_true rfl) (vpc rfl) dX4_addOn_46 ?_
  refine J_topi (x := (upI (upI (upI M 55 ((1 : Int32) + v1).toNatClampNeg a1) 55 ((7 : Int32) + v1).toNatClampNeg a2) 55 ((13 : Int32) + v1).toNatClampNeg a3).1 55 (Int32.toNatClampNeg 0)) (y := ((upI (upI (upI M 55 ((1 : Int32) + v1).toNatClampNeg a1) 55 ((7 : Int32) + v1).toNatClampNeg a2) 55 ((13 : Int32) + v1).toNatClampNeg a3).1 55 0)) (Eq.symm (a := (upI (upI (upI M 55 ((1 : Int32) + v1).toNatClampNeg a1) 55 ((7 : Int32) + v1).toNatClampNeg a2) 55 ((13 : Int32) + v1).toNatClampNeg a3).1 55 (Int32.toNatClampNeg 0)) (show (upI (upI (upI M 55 ((1 : Int32) + v1).toNatClampNeg a1) 55 ((7 : Int32) + v1).toNatClampNeg a2) 55 ((13 : Int32) + v1).toNatClampNeg a3).1 55 0 = ((upI (upI (upI M 55 ((1 : Int32) + v1).toNatClampNeg a1) 55 ((7 : Int32) + v1).toNatClampNeg a2) 55 ((13 : Int32) + v1).toNatClampNeg a3).1 55 0) from (congrFun (rI_cg (rI_cg (rI_cg rfl))) _))) ?_
  refine J_iconst (v := (1 : Int32)) (pc := 47) dX4_addOn_47 (by decide) ?_
  refine J_iadd (pc := 48) dX4_addOn_48 ?_
  refine J_iast (c := 55) (N := 82) (pc := 49) (fun _ => ja_55) (Nat.le_of_ble_eq_true rfl) (vpc rfl) dX4_addOn_49 ?_
  refine J_M (upI (upI (upI (upI M 55 ((1 : Int32) + v1).toNatClampNeg a1) 55 ((7 : Int32) + v1).toNatClampNeg a2) 55 ((13 : Int32) + v1).toNatClampNeg a3) 55 0 (((upI (upI (upI M 55 ((1 : Int32) + v1).toNatClampNeg a1) 55 ((7 : Int32) + v1).toNatClampNeg a2) 55 ((13 : Int32) + v1).toNatClampNeg a3).1 55 0) + (1 : Int32))) rfl ?_
  refine J_aload_n (pc := 50) dX4_addOn_50 rfl 0 rfl ?_
  refine get_53_3 (pc := 51) w_1026 dX4_addOn_51 ?_
  refine J_bipush (v := (20 : Int32)) (pc := 54) dX4_addOn_54 (by decide) ?_
  refine J_iconst (v := (0 : Int32)) (pc := 56) dX4_addOn_56 (by decide) ?_
  refine J_iast (c := 55) (N := 82) (pc := 57) (fun _ => ja_55) (Nat.le_of_ble_eq_true rfl) (vpc rfl) dX4_addOn_57 ?_
  refine J_M (upI (upI (upI (upI (upI M 55 ((1 : Int32) + v1).toNatClampNeg a1) 55 ((7 : Int32) + v1).toNatClampNeg a2) 55 ((13 : Int32) + v1).toNatClampNeg a3) 55 0 (((upI (upI (upI M 55 ((1 : Int32) + v1).toNatClampNeg a1) 55 ((7 : Int32) + v1).toNatClampNeg a2) 55 ((13 : Int32) + v1).toNatClampNeg a3).1 55 0) + (1 : Int32))) 55 20 (0 : Int32)) rfl ?_
  refine J_iload (pc := 58) dX4_addOn_58 4 rfl ?_
  cases h
  exact J_ireturn dX4_addOn_60 rfl rfl rfl rfl rfl
set_option maxHeartbeats 4000000 in
set_option maxRecDepth 100000 in
theorem k_X4_hasWall {E : En} (a1 : Int32) (M : Wd) : Con E mi_X4_hasWall [.ref 53, .int a1] M (.inl (some (.int (F_X4_hasWall a1 M)))) M := by
  obtain ⟨r, h⟩ : ∃ r, F_X4_hasWall a1 M = r := ⟨_, rfl⟩
  rw [h]
  unfold F_X4_hasWall at h
  refine Con.of (by decide) rfl (Nat.le_of_ble_eq_true rfl) (fun κ => ?_)
  show J κ E mi_X4_hasWall _ 0 0 [(0, .ref 53), (1, .int a1)] M 0 []
  refine J_aload_n (pc := 0) dX4_hasWall_0 rfl 0 rfl ?_
  refine get_53_3 (pc := 1) w_1026 dX4_hasWall_1 ?_
  refine J_bipush (v := (19 : Int32)) (pc := 4) dX4_hasWall_4 (by decide) ?_
  refine J_iald (c := 55) (N := 82) (pc := 6) ja_55 (Nat.le_of_ble_eq_true rfl) (vpc rfl) dX4_hasWall_6 ?_
  refine J_topi (x := M.1 55 (Int32.toNatClampNeg 19)) (y := (M.1 55 19)) (Eq.symm (a := M.1 55 (Int32.toNatClampNeg 19)) (show M.1 55 19 = (M.1 55 19) from rfl)) ?_
  refine J_iload_n (pc := 7) dX4_hasWall_7 rfl 1 rfl ?_
  refine J_ishr (pc := 8) dX4_hasWall_8 ?_
  refine J_iconst (v := (1 : Int32)) (pc := 9) dX4_hasWall_9 (by decide) ?_
  refine J_iand (pc := 10) dX4_hasWall_10 ?_
  refine J_iconst (v := (1 : Int32)) (pc := 11) dX4_hasWall_11 (by decide) ?_
  refine J_icmp_ne (pc := 12) (tgt := 19) dX4_hasWall_12 (by decide) (fun c1 => ?_) (fun c1 => ?_)
  · replace h := ifn c1 h
    refine J_iconst (v := (0 : Int32)) (pc := 19) dX4_hasWall_19 (by decide) ?_
    subst h
    exact J_zreturn dX4_hasWall_20 rfl (Or.inl rfl) rfl rfl rfl rfl
  · replace h := ifp c1 h
    refine J_iconst (v := (1 : Int32)) (pc := 15) dX4_hasWall_15 (by decide) ?_
    refine J_goto (pc := 16) (tgt := 20) dX4_hasWall_16 (by decide) ?_
    subst h
    exact J_zreturn dX4_hasWall_20 rfl (Or.inr rfl) rfl rfl rfl rfl
set_option maxHeartbeats 4000000 in
set_option maxRecDepth 100000 in
theorem k_X4_canTurn {E : En} (a1 : Int32) (M : Wd) {r : Int32} (h : F_X4_canTurn a1 M = some r) : Con E mi_X4_canTurn [.ref 53, .int a1] M (.inl (some (.int r))) M := by
  unfold F_X4_canTurn at h
  refine Con.of (by decide) rfl (Nat.le_of_ble_eq_true rfl) (fun κ => ?_)
  show J κ E mi_X4_canTurn _ 0 0 [(0, .ref 53), (1, .int a1)] M 0 []
  refine J_aload_n (pc := 0) dX4_canTurn_0 rfl 0 rfl ?_
  refine J_iload_n (pc := 1) dX4_canTurn_1 rfl 1 rfl ?_
  refine J_callV (g := mi_X4_hasWall) (ci := 4) (pc := 2) [.int a1] [] mv_X4_hasWall w_1151 (k_X4_hasWall a1 _) rfl (by decide) rfl rfl rfl ⟨⟨Nat.le_of_ble_eq_true rfl, Nat.le_of_ble_eq_true rfl⟩, Nat.le_of_ble_eq_true rfl, Nat.le_of_ble_eq_true rfl⟩ (Nat.le_of_ble_eq_true rfl) dX4_canTurn_2 (Jk_v rfl rfl fun hok1 => ?_)
  refine J_if_ne (pc := 5) (tgt := 33) dX4_canTurn_5 (by decide) (fun c2 => ?_) (fun c2 => ?_)
  · replace h := ifn c2 h
    refine J_iconst (v := (1 : Int32)) (pc := 33) dX4_canTurn_33 (by decide) ?_
    refine J_goto (pc := 34) (tgt := 38) dX4_canTurn_34 (by decide) ?_
    cases h
    exact J_zreturn dX4_canTurn_38 rfl (Or.inr rfl) rfl rfl rfl rfl
  · replace h := ifp c2 h
    refine J_aload_n (pc := 8) dX4_canTurn_8 rfl 0 rfl ?_
    obtain ⟨v3, hc4, h⟩ := obind_e h
    refine J_callV (g := mi_X4_occupied) (ci := 4) (pc := 9) [] [] mv_X4_occupied w_1112 (k_X4_occupied _ hc4) rfl (by decide) rfl rfl rfl ⟨⟨Nat.le_of_ble_eq_true rfl, Nat.le_of_ble_eq_true rfl⟩, Nat.le_of_ble_eq_true rfl, Nat.le_of_ble_eq_true rfl⟩ (Nat.le_of_ble_eq_true rfl) dX4_canTurn_9 (Jk_v rfl rfl fun hok5 => ?_)
    refine J_iload_n (pc := 12) dX4_canTurn_12 rfl 1 rfl ?_
    refine J_ishr (pc := 13) dX4_canTurn_13 ?_
    refine J_iconst (v := (1 : Int32)) (pc := 14) dX4_canTurn_14 (by decide) ?_
    refine J_iand (pc := 15) dX4_canTurn_15 ?_
    refine J_if_ne (pc := 16) (tgt := 37) dX4_canTurn_16 (by decide) (fun c6 => ?_) (fun c6 => ?_)
    · replace h := ifn c6 h
      refine J_iconst (v := (0 : Int32)) (pc := 37) dX4_canTurn_37 (by decide) ?_
      cases h
      exact J_zreturn dX4_canTurn_38 rfl (Or.inl rfl) rfl rfl rfl rfl
    · replace h := ifp c6 h
      refine J_aload_n (pc := 19) dX4_canTurn_19 rfl 0 rfl ?_
      refine get_53_3 (pc := 20) w_1026 dX4_canTurn_20 ?_
      refine J_bipush (v := (19 : Int32)) (pc := 23) dX4_canTurn_23 (by decide) ?_
      refine J_iald (c := 55) (N := 82) (pc := 25) ja_55 (Nat.le_of_ble_eq_true rfl) (vpc rfl) dX4_canTurn_25 ?_
      refine J_topi (x := M.1 55 (Int32.toNatClampNeg 19)) (y := (M.1 55 19)) (Eq.symm (a := M.1 55 (Int32.toNatClampNeg 19)) (show M.1 55 19 = (M.1 55 19) from rfl)) ?_
      obtain ⟨v7, hc8, h⟩ := obind_e h
      refine J_callS (g := mi_X4_bits) (pc := 26) [.int (M.1 55 19)] [] ms_X4_bits w_1155 (k_X4_bits (M.1 55 19) _ hc8) rfl rfl ⟨⟨Nat.le_of_ble_eq_true rfl, Nat.le_of_ble_eq_true rfl⟩, Nat.le_of_ble_eq_true rfl, Nat.le_of_ble_eq_true rfl⟩ (Nat.le_of_ble_eq_true rfl) dX4_canTurn_26 (Jk_v rfl rfl fun hok9 => ?_)
      refine J_iconst (v := (4 : Int32)) (pc := 29) dX4_canTurn_29 (by decide) ?_
      refine J_icmp_ge (pc := 30) (tgt := 37) dX4_canTurn_30 (by decide) (fun c10 => ?_) (fun c10 => ?_)
      · replace h := ifp c10 h
        refine J_iconst (v := (0 : Int32)) (pc := 37) dX4_canTurn_37 (by decide) ?_
        cases h
        exact J_zreturn dX4_canTurn_38 rfl (Or.inl rfl) rfl rfl rfl rfl
      · replace h := ifn c10 h
        refine J_iconst (v := (1 : Int32)) (pc := 33) dX4_canTurn_33 (by decide) ?_
        refine J_goto (pc := 34) (tgt := 38) dX4_canTurn_34 (by decide) ?_
        cases h
        exact J_zreturn dX4_canTurn_38 rfl (Or.inr rfl) rfl rfl rfl rfl
set_option maxHeartbeats 4000000 in
set_option maxRecDepth 100000 in
theorem k_X4_turnOn {E : En} (a1 : Int32) (M : Wd) {r : Int32} {M' : Wd} (h : F_X4_turnOn a1 M = some (r, M')) : Con E mi_X4_turnOn [.ref 53, .int a1] M (.inl (some (.int r))) M' := by
  unfold F_X4_turnOn at h
  refine Con.of (by decide) rfl (Nat.le_of_ble_eq_true rfl) (fun κ => ?_)
  show J κ E mi_X4_turnOn _ 0 0 [(0, .ref 53), (1, .int a1)] M 0 []
  refine J_aload_n (pc := 0) dX4_turnOn_0 rfl 0 rfl ?_
  refine get_53_3 (pc := 1) w_1026 dX4_turnOn_1 ?_
  refine J_bipush (v := (19 : Int32)) (pc := 4) dX4_turnOn_4 (by decide) ?_
  refine J_dup2 (pc := 6) dX4_turnOn_6 rfl rfl ?_
  refine J_iald (c := 55) (N := 82) (pc := 7) ja_55 (Nat.le_of_ble_eq_true rfl) (vpc rfl) dX4_turnOn_7 ?_
  refine J_topi (x := M.1 55 (Int32.toNatClampNeg 19)) (y := (M.1 55 19)) (Eq.symm (a := M.1 55 (Int32.toNatClampNeg 19)) (show M.1 55 19 = (M.1 55 19) from rfl)) ?_
  refine J_iconst (v := (1 : Int32)) (pc := 8) dX4_turnOn_8 (by decide) ?_
  refine J_iload_n (pc := 9) dX4_turnOn_9 rfl 1 rfl ?_
  refine J_ishl (pc := 10) dX4_turnOn_10 ?_
  refine J_ixor (pc := 11) dX4_turnOn_11 ?_
  refine J_iast (c := 55) (N := 82) (pc := 12) (fun _ => ja_55) (Nat.le_of_ble_eq_true rfl) (vpc rfl) dX4_turnOn_12 ?_
  refine J_M (upI M 55 19 ((M.1 55 19) ^^^ ((1 : Int32) <<< (a1 &&& 31)))) rfl ?_
  refine J_aload_n (pc := 13) dX4_turnOn_13 rfl 0 rfl ?_
  refine get_53_3 (pc := 14) w_1026 dX4_turnOn_14 ?_
  refine J_bipush (v := (20 : Int32)) (pc := 17) dX4_turnOn_17 (by decide) ?_
  refine J_iconst (v := (0 : Int32)) (pc := 19) dX4_turnOn_19 (by decide) ?_
  refine J_iast (c := 55) (N := 82) (pc := 20) (fun _ => ja_55) (Nat.le_of_ble_eq_true rfl) (vpc rfl) dX4_turnOn_20 ?_
  refine J_M (upI (upI M 55 19 ((M.1 55 19) ^^^ ((1 : Int32) <<< (a1 &&& 31)))) 55 20 (0 : Int32)) rfl ?_
  refine J_aload_n (pc := 21) dX4_turnOn_21 rfl 0 rfl ?_
  refine J_iload_n (pc := 22) dX4_turnOn_22 rfl 1 rfl ?_
  refine J_callV (g := mi_X4_hasWall) (ci := 4) (pc := 23) [.int a1] [] mv_X4_hasWall w_1151 (k_X4_hasWall a1 _) rfl (by decide) rfl rfl rfl ⟨⟨Nat.le_of_ble_eq_true rfl, Nat.le_of_ble_eq_true rfl⟩, Nat.le_of_ble_eq_true rfl, Nat.le_of_ble_eq_true rfl⟩ (Nat.le_of_ble_eq_true rfl) dX4_turnOn_23 (Jk_v rfl rfl fun hok1 => ?_)
  cases h
  exact J_zreturn dX4_turnOn_26 rfl (okB_b hok1) rfl rfl rfl rfl
set_option maxHeartbeats 4000000 in
set_option maxRecDepth 100000 in
theorem k_X4_slideOn {E : En} (a1 : Int32) (a2 : Int32) (M : Wd) {r : Int32} {M' : Wd} (h : F_X4_slideOn a1 a2 M = some (r, M')) : Con E mi_X4_slideOn [.ref 53, .int a1, .int a2] M (.inl (some (.int r))) M' := by
  unfold F_X4_slideOn at h
  refine Con.of (by decide) rfl (Nat.le_of_ble_eq_true rfl) (fun κ => ?_)
  show J κ E mi_X4_slideOn _ 0 0 [(0, .ref 53), (1, .int a1), (2, .int a2)] M 0 []
  refine J_aload_n (pc := 0) dX4_slideOn_0 rfl 0 rfl ?_
  refine get_53_3 (pc := 1) w_1026 dX4_slideOn_1 ?_
  refine J_bipush (v := (21 : Int32)) (pc := 4) dX4_slideOn_4 (by decide) ?_
  refine J_aload_n (pc := 6) dX4_slideOn_6 rfl 0 rfl ?_
  refine get_53_3 (pc := 7) w_1026 dX4_slideOn_7 ?_
  refine J_bipush (v := (20 : Int32)) (pc := 10) dX4_slideOn_10 (by decide) ?_
  refine J_iald (c := 55) (N := 82) (pc := 12) ja_55 (Nat.le_of_ble_eq_true rfl) (vpc rfl) dX4_slideOn_12 ?_
  refine J_topi (x := M.1 55 (Int32.toNatClampNeg 20)) (y := (M.1 55 20)) (Eq.symm (a := M.1 55 (Int32.toNatClampNeg 20)) (show M.1 55 20 = (M.1 55 20) from rfl)) ?_
  refine J_iadd (pc := 13) dX4_slideOn_13 ?_
  refine J_bipush (v := (8 : Int32)) (pc := 14) dX4_slideOn_14 (by decide) ?_
  refine J_iload_n (pc := 16) dX4_slideOn_16 rfl 1 rfl ?_
  refine J_imul (pc := 17) dX4_slideOn_17 ?_
  refine J_iload_n (pc := 18) dX4_slideOn_18 rfl 2 rfl ?_
  refine J_iadd (pc := 19) dX4_slideOn_19 ?_
  refine J_iconst (v := (3 : Int32)) (pc := 20) dX4_slideOn_20 (by decide) ?_
  refine J_iadd (pc := 21) dX4_slideOn_21 ?_
  obtain ⟨hk1, h⟩ := inb_e h
  refine J_iast (c := 55) (N := 82) (pc := 22) (fun _ => ja_55) (Nat.le_of_ble_eq_true rfl) hk1 dX4_slideOn_22 ?_
  refine J_aload_n (pc := 23) dX4_slideOn_23 rfl 0 rfl ?_
  refine get_53_3 (pc := 24) w_1026 dX4_slideOn_24 ?_
  refine J_bipush (v := (20 : Int32)) (pc := 27) dX4_slideOn_27 (by decide) ?_
  refine J_dup2 (pc := 29) dX4_slideOn_29 rfl rfl ?_
  refine J_iald (c := 55) (N := 82) (pc := 30) ja_55 (Nat.le_of_ble_eq_true rfl) (vpc rfl) dX4_slideOn_30 ?_
  refine J_topi (x := (upI M 55 ((21 : Int32) + (M.1 55 20)).toNatClampNeg ((((8 : Int32) * a1) + a2) + (3 : Int32))).1 55 (Int32.toNatClampNeg 20)) (y := ((upI M 55 ((21 : Int32) + (M.1 55 20)).toNatClampNeg ((((8 : Int32) * a1) + a2) + (3 : Int32))).1 55 20)) (Eq.symm (a := (upI M 55 ((21 : Int32) + (M.1 55 20)).toNatClampNeg ((((8 : Int32) * a1) + a2) + (3 : Int32))).1 55 (Int32.toNatClampNeg 20)) (show (upI M 55 ((21 : Int32) + (M.1 55 20)).toNatClampNeg ((((8 : Int32) * a1) + a2) + (3 : Int32))).1 55 20 = ((upI M 55 ((21 : Int32) + (M.1 55 20)).toNatClampNeg ((((8 : Int32) * a1) + a2) + (3 : Int32))).1 55 20) from (congrFun (rI_cg rfl) _))) ?_
  refine J_iconst (v := (1 : Int32)) (pc := 31) dX4_slideOn_31 (by decide) ?_
  refine J_iadd (pc := 32) dX4_slideOn_32 ?_
  refine J_iast (c := 55) (N := 82) (pc := 33) (fun _ => ja_55) (Nat.le_of_ble_eq_true rfl) (vpc rfl) dX4_slideOn_33 ?_
  refine J_M (upI (upI M 55 ((21 : Int32) + (M.1 55 20)).toNatClampNeg ((((8 : Int32) * a1) + a2) + (3 : Int32))) 55 20 (((upI M 55 ((21 : Int32) + (M.1 55 20)).toNatClampNeg ((((8 : Int32) * a1) + a2) + (3 : Int32))).1 55 20) + (1 : Int32))) rfl ?_
  refine J_aload_n (pc := 34) dX4_slideOn_34 rfl 0 rfl ?_
  refine get_53_3 (pc := 35) w_1026 dX4_slideOn_35 ?_
  refine J_bipush (v := (7 : Int32)) (pc := 38) dX4_slideOn_38 (by decide) ?_
  refine J_iload_n (pc := 40) dX4_slideOn_40 rfl 1 rfl ?_
  refine J_iadd (pc := 41) dX4_slideOn_41 ?_
  refine J_dup2 (pc := 42) dX4_slideOn_42 rfl rfl ?_
  obtain ⟨v2, e3, hk4, h⟩ := ldi_e h
  refine J_iald (c := 55) (N := 82) (pc := 43) ja_55 (Nat.le_of_ble_eq_true rfl) hk4 dX4_slideOn_43 ?_
  refine J_topi e3 ?_
  refine J_iload_n (pc := 44) dX4_slideOn_44 rfl 2 rfl ?_
  refine J_iadd (pc := 45) dX4_slideOn_45 ?_
  obtain ⟨hk5, h⟩ := inb_e h
  refine J_iast (c := 55) (N := 82) (pc := 46) (fun _ => ja_55) (Nat.le_of_ble_eq_true rfl) hk5 dX4_slideOn_46 ?_
  refine J_aload_n (pc := 47) dX4_slideOn_47 rfl 0 rfl ?_
  refine get_53_3 (pc := 48) w_1026 dX4_slideOn_48 ?_
  refine J_bipush (v := (7 : Int32)) (pc := 51) dX4_slideOn_51 (by decide) ?_
  refine J_iload_n (pc := 53) dX4_slideOn_53 rfl 1 rfl ?_
  refine J_iadd (pc := 54) dX4_slideOn_54 ?_
  obtain ⟨v6, e7, hk8, h⟩ := ldi_e h
  refine J_iald (c := 55) (N := 82) (pc := 55) ja_55 (Nat.le_of_ble_eq_true rfl) hk8 dX4_slideOn_55 ?_
  refine J_topi e7 ?_
  cases h
  exact J_ireturn dX4_slideOn_56 rfl rfl rfl rfl rfl
set_option maxHeartbeats 4000000 in
set_option maxRecDepth 100000 in
theorem k_X4_logCar {E : En} (a1 : Int32) (M : Wd) {r : Int32} (h : F_X4_logCar a1 M = some r) : Con E mi_X4_logCar [.ref 53, .int a1] M (.inl (some (.int r))) M := by
  unfold F_X4_logCar at h
  refine Con.of (by decide) rfl (Nat.le_of_ble_eq_true rfl) (fun κ => ?_)
  show J κ E mi_X4_logCar _ 0 0 [(0, .ref 53), (1, .int a1)] M 0 []
  refine J_aload_n (pc := 0) dX4_logCar_0 rfl 0 rfl ?_
  refine get_53_3 (pc := 1) w_1026 dX4_logCar_1 ?_
  refine J_bipush (v := (21 : Int32)) (pc := 4) dX4_logCar_4 (by decide) ?_
  refine J_iload_n (pc := 6) dX4_logCar_6 rfl 1 rfl ?_
  refine J_iadd (pc := 7) dX4_logCar_7 ?_
  obtain ⟨v1, e2, hk3, h⟩ := ldi_e h
  refine J_iald (c := 55) (N := 82) (pc := 8) ja_55 (Nat.le_of_ble_eq_true rfl) hk3 dX4_logCar_8 ?_
  refine J_topi e2 ?_
  refine J_bipush (v := (8 : Int32)) (pc := 9) dX4_logCar_9 (by decide) ?_
  refine J_idiv (pc := 11) dX4_logCar_11 (by decide) ?_
  cases h
  exact J_ireturn dX4_logCar_12 rfl rfl rfl rfl rfl
set_option maxHeartbeats 4000000 in
set_option maxRecDepth 100000 in
theorem k_X4_logBy {E : En} (a1 : Int32) (M : Wd) {r : Int32} (h : F_X4_logBy a1 M = some r) : Con E mi_X4_logBy [.ref 53, .int a1] M (.inl (some (.int r))) M := by
  unfold F_X4_logBy at h
  refine Con.of (by decide) rfl (Nat.le_of_ble_eq_true rfl) (fun κ => ?_)
  show J κ E mi_X4_logBy _ 0 0 [(0, .ref 53), (1, .int a1)] M 0 []
  refine J_aload_n (pc := 0) dX4_logBy_0 rfl 0 rfl ?_
  refine get_53_3 (pc := 1) w_1026 dX4_logBy_1 ?_
  refine J_bipush (v := (21 : Int32)) (pc := 4) dX4_logBy_4 (by decide) ?_
  refine J_iload_n (pc := 6) dX4_logBy_6 rfl 1 rfl ?_
  refine J_iadd (pc := 7) dX4_logBy_7 ?_
  obtain ⟨v1, e2, hk3, h⟩ := ldi_e h
  refine J_iald (c := 55) (N := 82) (pc := 8) ja_55 (Nat.le_of_ble_eq_true rfl) hk3 dX4_logBy_8 ?_
  refine J_topi e2 ?_
  refine J_bipush (v := (8 : Int32)) (pc := 9) dX4_logBy_9 (by decide) ?_
  refine J_irem (pc := 11) dX4_logBy_11 (by decide) ?_
  refine J_iconst (v := (3 : Int32)) (pc := 12) dX4_logBy_12 (by decide) ?_
  refine J_isub (pc := 13) dX4_logBy_13 ?_
  cases h
  exact J_ireturn dX4_logBy_14 rfl rfl rfl rfl rfl
set_option maxHeartbeats 4000000 in
set_option maxRecDepth 100000 in
theorem k_X4_backOn {E : En} (M : Wd) {r : Int32} {M' : Wd} (h : F_X4_backOn M = some (r, M')) : Con E mi_X4_backOn [.ref 53] M (.inl (some (.int r))) M' := by
  unfold F_X4_backOn at h
  refine Con.of (by decide) rfl (Nat.le_of_ble_eq_true rfl) (fun κ => ?_)
  show J κ E mi_X4_backOn _ 0 0 [(0, .ref 53)] M 0 []
  refine J_aload_n (pc := 0) dX4_backOn_0 rfl 0 rfl ?_
  refine get_53_3 (pc := 1) w_1026 dX4_backOn_1 ?_
  refine J_bipush (v := (20 : Int32)) (pc := 4) dX4_backOn_4 (by decide) ?_
  refine J_dup2 (pc := 6) dX4_backOn_6 rfl rfl ?_
  refine J_iald (c := 55) (N := 82) (pc := 7) ja_55 (Nat.le_of_ble_eq_true rfl) (vpc rfl) dX4_backOn_7 ?_
  refine J_topi (x := M.1 55 (Int32.toNatClampNeg 20)) (y := (M.1 55 20)) (Eq.symm (a := M.1 55 (Int32.toNatClampNeg 20)) (show M.1 55 20 = (M.1 55 20) from rfl)) ?_
  refine J_iconst (v := (1 : Int32)) (pc := 8) dX4_backOn_8 (by decide) ?_
  refine J_isub (pc := 9) dX4_backOn_9 ?_
  refine J_iast (c := 55) (N := 82) (pc := 10) (fun _ => ja_55) (Nat.le_of_ble_eq_true rfl) (vpc rfl) dX4_backOn_10 ?_
  refine J_M (upI M 55 20 ((M.1 55 20) - (1 : Int32))) rfl ?_
  refine J_aload_n (pc := 11) dX4_backOn_11 rfl 0 rfl ?_
  refine J_aload_n (pc := 12) dX4_backOn_12 rfl 0 rfl ?_
  refine get_53_3 (pc := 13) w_1026 dX4_backOn_13 ?_
  refine J_bipush (v := (20 : Int32)) (pc := 16) dX4_backOn_16 (by decide) ?_
  refine J_iald (c := 55) (N := 82) (pc := 18) ja_55 (Nat.le_of_ble_eq_true rfl) (vpc rfl) dX4_backOn_18 ?_
  refine J_topi (x := (upI M 55 20 ((M.1 55 20) - (1 : Int32))).1 55 (Int32.toNatClampNeg 20)) (y := ((M.1 55 20) - (1 : Int32))) (Eq.symm (a := (upI M 55 20 ((M.1 55 20) - (1 : Int32))).1 55 (Int32.toNatClampNeg 20)) (show (upI M 55 20 ((M.1 55 20) - (1 : Int32))).1 55 20 = ((M.1 55 20) - (1 : Int32)) from eI_kk)) ?_
  obtain ⟨v1, hc2, h⟩ := obind_e h
  refine J_callV (g := mi_X4_logCar) (ci := 4) (pc := 19) [.int ((M.1 55 20) - (1 : Int32))] [] mv_X4_logCar w_1194 (k_X4_logCar ((M.1 55 20) - (1 : Int32)) _ hc2) rfl (by decide) rfl rfl rfl ⟨⟨Nat.le_of_ble_eq_true rfl, Nat.le_of_ble_eq_true rfl⟩, Nat.le_of_ble_eq_true rfl, Nat.le_of_ble_eq_true rfl⟩ (Nat.le_of_ble_eq_true rfl) dX4_backOn_19 (Jk_v rfl rfl fun hok3 => ?_)
  refine J_istore_n (pc := 22) dX4_backOn_22 rfl (Nat.le_of_ble_eq_true rfl) [1, 0] rfl ?_
  refine J_aload_n (pc := 23) dX4_backOn_23 rfl 0 rfl ?_
  refine get_53_3 (pc := 24) w_1026 dX4_backOn_24 ?_
  refine J_bipush (v := (7 : Int32)) (pc := 27) dX4_backOn_27 (by decide) ?_
  refine J_iload_n (pc := 29) dX4_backOn_29 rfl 1 rfl ?_
  refine J_iadd (pc := 30) dX4_backOn_30 ?_
  refine J_dup2 (pc := 31) dX4_backOn_31 rfl rfl ?_
  obtain ⟨v4, e5, hk6, h⟩ := ldi_e h
  refine J_iald (c := 55) (N := 82) (pc := 32) ja_55 (Nat.le_of_ble_eq_true rfl) hk6 dX4_backOn_32 ?_
  refine J_topi e5 ?_
  refine J_aload_n (pc := 33) dX4_backOn_33 rfl 0 rfl ?_
  refine J_aload_n (pc := 34) dX4_backOn_34 rfl 0 rfl ?_
  refine get_53_3 (pc := 35) w_1026 dX4_backOn_35 ?_
  refine J_bipush (v := (20 : Int32)) (pc := 38) dX4_backOn_38 (by decide) ?_
  refine J_iald (c := 55) (N := 82) (pc := 40) ja_55 (Nat.le_of_ble_eq_true rfl) (vpc rfl) dX4_backOn_40 ?_
  refine J_topi (x := (upI M 55 20 ((M.1 55 20) - (1 : Int32))).1 55 (Int32.toNatClampNeg 20)) (y := ((M.1 55 20) - (1 : Int32))) (Eq.symm (a := (upI M 55 20 ((M.1 55 20) - (1 : Int32))).1 55 (Int32.toNatClampNeg 20)) (show (upI M 55 20 ((M.1 55 20) - (1 : Int32))).1 55 20 = ((M.1 55 20) - (1 : Int32)) from eI_kk)) ?_
  obtain ⟨v7, hc8, h⟩ := obind_e h
  refine J_callV (g := mi_X4_logBy) (ci := 4) (pc := 41) [.int ((M.1 55 20) - (1 : Int32))] [.int v4, .int ((7 : Int32) + v1), .ref 55] mv_X4_logBy w_1198 (k_X4_logBy ((M.1 55 20) - (1 : Int32)) _ hc8) rfl (by decide) rfl rfl rfl ⟨⟨Nat.le_of_ble_eq_true rfl, Nat.le_of_ble_eq_true rfl⟩, Nat.le_of_ble_eq_true rfl, Nat.le_of_ble_eq_true rfl⟩ (Nat.le_of_ble_eq_true rfl) dX4_backOn_41 (Jk_v rfl rfl fun hok9 => ?_)
  refine J_isub (pc := 44) dX4_backOn_44 ?_
  obtain ⟨hk10, h⟩ := inb_e h
  refine J_iast (c := 55) (N := 82) (pc := 45) (fun _ => ja_55) (Nat.le_of_ble_eq_true rfl) hk10 dX4_backOn_45 ?_
  refine J_iload_n (pc := 46) dX4_backOn_46 rfl 1 rfl ?_
  cases h
  exact J_ireturn dX4_backOn_47 rfl rfl rfl rfl rfl
set_option maxHeartbeats 4000000 in
set_option maxRecDepth 100000 in
theorem k_X4_canDrive {E : En} (M : Wd) {r : Int32} {M' : Wd} (h : F_X4_canDrive M = some (r, M')) : Con E mi_X4_canDrive [.ref 53] M (.inl (some (.int r))) M' := by
  unfold F_X4_canDrive at h
  refine Con.of (by decide) rfl (Nat.le_of_ble_eq_true rfl) (fun κ => ?_)
  show J κ E mi_X4_canDrive _ 0 0 [(0, .ref 53)] M 0 []
  refine J_aload_n (pc := 0) dX4_canDrive_0 rfl 0 rfl ?_
  obtain ⟨v1, M2, hc3, h⟩ := obind2_e h
  refine J_callV (g := mi_X4_planned) (ci := 4) (pc := 1) [] [] mv_X4_planned w_1214 (k_X4_planned _ hc3) rfl (by decide) rfl rfl rfl ⟨⟨Nat.le_of_ble_eq_true rfl, Nat.le_of_ble_eq_true rfl⟩, Nat.le_of_ble_eq_true rfl, Nat.le_of_ble_eq_true rfl⟩ (Nat.le_of_ble_eq_true rfl) dX4_canDrive_1 (Jk_v rfl rfl fun hok4 => ?_)
  refine J_istore_n (pc := 4) dX4_canDrive_4 rfl (Nat.le_of_ble_eq_true rfl) [1, 0] rfl ?_
  refine J_iload_n (pc := 5) dX4_canDrive_5 rfl 1 rfl ?_
  refine J_iconst (v := (-1 : Int32)) (pc := 6) dX4_canDrive_6 (by decide) ?_
  refine J_icmp_eq (pc := 7) (tgt := 28) dX4_canDrive_7 (by decide) (fun c5 => ?_) (fun c5 => ?_)
  · replace h := ifp c5 h
    refine J_iconst (v := (0 : Int32)) (pc := 28) dX4_canDrive_28 (by decide) ?_
    cases h
    exact J_zreturn dX4_canDrive_29 rfl (Or.inl rfl) rfl rfl rfl rfl
  · replace h := ifn c5 h
    refine J_aload_n (pc := 10) dX4_canDrive_10 rfl 0 rfl ?_
    refine get_53_3 (pc := 11) w_1026 dX4_canDrive_11 ?_
    refine J_bipush (v := (20 : Int32)) (pc := 14) dX4_canDrive_14 (by decide) ?_
    refine J_iald (c := 55) (N := 82) (pc := 16) ja_55 (Nat.le_of_ble_eq_true rfl) (vpc rfl) dX4_canDrive_16 ?_
    refine J_topi (x := M2.1 55 (Int32.toNatClampNeg 20)) (y := (M2.1 55 20)) (Eq.symm (a := M2.1 55 (Int32.toNatClampNeg 20)) (show M2.1 55 20 = (M2.1 55 20) from rfl)) ?_
    refine J_iload_n (pc := 17) dX4_canDrive_17 rfl 1 rfl ?_
    refine J_iadd (pc := 18) dX4_canDrive_18 ?_
    refine J_bipush (v := (60 : Int32)) (pc := 19) dX4_canDrive_19 (by decide) ?_
    refine J_icmp_gt (pc := 21) (tgt := 28) dX4_canDrive_21 (by decide) (fun c6 => ?_) (fun c6 => ?_)
    · replace h := ifp c6 h
      refine J_iconst (v := (0 : Int32)) (pc := 28) dX4_canDrive_28 (by decide) ?_
      cases h
      exact J_zreturn dX4_canDrive_29 rfl (Or.inl rfl) rfl rfl rfl rfl
    · replace h := ifn c6 h
      refine J_iconst (v := (1 : Int32)) (pc := 24) dX4_canDrive_24 (by decide) ?_
      refine J_goto (pc := 25) (tgt := 29) dX4_canDrive_25 (by decide) ?_
      cases h
      exact J_zreturn dX4_canDrive_29 rfl (Or.inr rfl) rfl rfl rfl rfl

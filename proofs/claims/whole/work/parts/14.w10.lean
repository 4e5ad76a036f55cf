/-! ===== walks of the methods, 10 ===== -/
set_option maxHeartbeats 4000000 in
set_option maxRecDepth 100000 in
theorem kL_X4_isWhole_L7 {κ : Kx} {E : En} {Q : State → Prop} {ρ : Type} {r : ρ} (a1 : Int32) (M : Wd) (K45 : Option ρ) (K58 : Option ρ) (hK45 : K45 = some r → J κ E mi_X4_isWhole Q 0 0 [] M 45 []) (hK58 : K58 = some r → J κ E mi_X4_isWhole Q 0 0 [] M 58 []) : ∀ (m : Nat) (x2 : Int32) (x3 : Int32), F_X4_isWhole_L7 a1 M K45 K58 m x2 x3 = some r → J κ E mi_X4_isWhole Q 0 0 [(0, .ref 53), (1, .int a1), (2, .int x2), (3, .int x3)] M 7 [] := by
  intro m
  induction m with
  | zero => intro x2 x3 h; exact (nomatch (show (none : Option ρ) = some r from h))
  | succ m ih =>
    intro x2 x3 h
    unfold F_X4_isWhole_L7 at h
    refine J_iload_n (pc := 7) dX4_isWhole_7 rfl 3 rfl ?_
    refine J_aload_n (pc := 8) dX4_isWhole_8 rfl 0 rfl ?_
    refine get_53_9 (pc := 9) w_1032 dX4_isWhole_9 ?_
    refine J_icmp_ge (pc := 12) (tgt := 58) dX4_isWhole_12 (by decide) (fun c3 => ?_) (fun c3 => ?_)
    · replace h := ifp c3 h
      refine J_sub [] rfl ?_
      exact hK58 h
    · replace h := ifn c3 h
      refine J_aload_n (pc := 15) dX4_isWhole_15 rfl 0 rfl ?_
      refine get_53_8 (pc := 16) w_1031 dX4_isWhole_16 ?_
      refine J_iconst (v := (4 : Int32)) (pc := 19) dX4_isWhole_19 (by decide) ?_
      refine J_iload_n (pc := 20) dX4_isWhole_20 rfl 3 rfl ?_
      refine J_imul (pc := 21) dX4_isWhole_21 ?_
      refine J_iload_n (pc := 22) dX4_isWhole_22 rfl 1 rfl ?_
      refine J_iconst (v := (2 : Int32)) (pc := 23) dX4_isWhole_23 (by decide) ?_
      refine J_iload_n (pc := 24) dX4_isWhole_24 rfl 3 rfl ?_
      refine J_imul (pc := 25) dX4_isWhole_25 ?_
      refine J_ishr (pc := 26) dX4_isWhole_26 ?_
      refine J_iconst (v := (3 : Int32)) (pc := 27) dX4_isWhole_27 (by decide) ?_
      refine J_iand (pc := 28) dX4_isWhole_28 ?_
      refine J_iadd (pc := 29) dX4_isWhole_29 ?_
      obtain ⟨v4, e5, hk6, h⟩ := ldi_e h
      refine J_iald (c := 58) (N := 24) (pc := 30) ja_58 (Nat.le_of_ble_eq_true rfl) hk6 dX4_isWhole_30 ?_
      refine J_topi e5 ?_
      refine J_istore (pc := 31) dX4_isWhole_31 (Nat.le_of_ble_eq_true rfl) [1, 2, 3, 4, 0] rfl ?_
      refine J_iload (pc := 33) dX4_isWhole_33 4 rfl ?_
      refine J_if_eq (pc := 35) (tgt := 45) dX4_isWhole_35 (by decide) (fun c7 => ?_) (fun c7 => ?_)
      · replace h := ifp c7 h
        refine J_sub [] rfl ?_
        exact hK45 h
      · replace h := ifn c7 h
        refine J_iload (pc := 38) dX4_isWhole_38 4 rfl ?_
        refine J_iload_n (pc := 40) dX4_isWhole_40 rfl 2 rfl ?_
        refine J_iand (pc := 41) dX4_isWhole_41 ?_
        refine J_if_eq (pc := 42) (tgt := 47) dX4_isWhole_42 (by decide) (fun c8 => ?_) (fun c8 => ?_)
        · replace h := ifp c8 h
          refine J_iload_n (pc := 47) dX4_isWhole_47 rfl 2 rfl ?_
          refine J_iload (pc := 48) dX4_isWhole_48 4 rfl ?_
          refine J_ior (pc := 50) dX4_isWhole_50 ?_
          obtain ⟨v9, e10, h⟩ := bnd_e h
          refine J_topi e10 ?_
          refine J_istore_n (pc := 51) dX4_isWhole_51 rfl (Nat.le_of_ble_eq_true rfl) [1, 2, 0, 3, 4] rfl ?_
          refine J_LS [(0, .ref 53), (1, .int a1), (2, .int v9), (3, .int x3), (4, .int v4)] [] rfl rfl ?_
          obtain ⟨v11, e12, h⟩ := bnd_e h
          refine J_iinc (v := v11) (pc := 52) dX4_isWhole_52 3 rfl (by rw [e12]; rfl) (Nat.le_of_ble_eq_true rfl) [1, 2, 3, 0, 4] rfl ?_
          refine J_goto (pc := 55) (tgt := 7) dX4_isWhole_55 (by decide) ?_
          refine J_sub [0, 1, 2, 3] rfl ?_
          exact ih _ _ h
        · replace h := ifn c8 h
          refine J_sub [] rfl ?_
          exact hK45 h
set_option maxHeartbeats 4000000 in
set_option maxRecDepth 100000 in
theorem k_X4_isWhole {E : En} (a1 : Int32) (M : Wd) {r : Int32} (h : F_X4_isWhole a1 M = some r) : Con E mi_X4_isWhole [.ref 53, .int a1] M (.inl (some (.int r))) M := by
  unfold F_X4_isWhole at h
  refine Con.of (by decide) rfl (Nat.le_of_ble_eq_true rfl) (fun κ => ?_)
  show J κ E mi_X4_isWhole _ 0 0 [(0, .ref 53), (1, .int a1)] M 0 []
  refine J_aload_n (pc := 0) dX4_isWhole_0 rfl 0 rfl ?_
  refine get_53_10 (pc := 1) w_1033 dX4_isWhole_1 ?_
  obtain ⟨v1, e2, h⟩ := bnd_e h
  refine J_topi e2 ?_
  refine J_istore_n (pc := 4) dX4_isWhole_4 rfl (Nat.le_of_ble_eq_true rfl) [1, 2, 0] rfl ?_
  refine J_iconst (v := (0 : Int32)) (pc := 5) dX4_isWhole_5 (by decide) ?_
  refine J_istore_n (pc := 6) dX4_isWhole_6 rfl (Nat.le_of_ble_eq_true rfl) [1, 2, 3, 0] rfl ?_
  refine J_LS [(0, .ref 53), (1, .int a1), (2, .int v1), (3, .int (0 : Int32))] [] rfl rfl ?_
  refine kL_X4_isWhole_L7 _ _ _ _ (fun h => ?_) (fun h => ?_) fuelN _ _ h
  · refine J_iconst (v := (0 : Int32)) (pc := 45) dX4_isWhole_45 (by decide) ?_
    cases h
    exact J_zreturn dX4_isWhole_46 rfl (Or.inl rfl) rfl rfl rfl rfl
  · refine J_iconst (v := (1 : Int32)) (pc := 58) dX4_isWhole_58 (by decide) ?_
    cases h
    exact J_zreturn dX4_isWhole_59 rfl (Or.inr rfl) rfl rfl rfl rfl
set_option maxHeartbeats 4000000 in
set_option maxRecDepth 100000 in
theorem k_X4_isEnd {E : En} (a1 : Int32) (M : Wd) : Con E mi_X4_isEnd [.ref 53, .int a1] M (.inl (some (.int (F_X4_isEnd a1 M)))) M := by
  obtain ⟨r, h⟩ : ∃ r, F_X4_isEnd a1 M = r := ⟨_, rfl⟩
  rw [h]
  unfold F_X4_isEnd at h
  refine Con.of (by decide) rfl (Nat.le_of_ble_eq_true rfl) (fun κ => ?_)
  show J κ E mi_X4_isEnd _ 0 0 [(0, .ref 53), (1, .int a1)] M 0 []
  refine J_aload_n (pc := 0) dX4_isEnd_0 rfl 0 rfl ?_
  refine get_53_9 (pc := 1) w_1032 dX4_isEnd_1 ?_
  refine J_if_le (pc := 4) (tgt := 26) dX4_isEnd_4 (by decide) (fun c1 => ?_) (fun c1 => ?_)
  · replace h := ifp c1 h
    refine J_iconst (v := (0 : Int32)) (pc := 26) dX4_isEnd_26 (by decide) ?_
    subst h
    exact J_zreturn dX4_isEnd_27 rfl (Or.inl rfl) rfl rfl rfl rfl
  · replace h := ifn c1 h
    refine J_iload_n (pc := 7) dX4_isEnd_7 rfl 1 rfl ?_
    refine J_iconst (v := (3 : Int32)) (pc := 8) dX4_isEnd_8 (by decide) ?_
    refine J_iand (pc := 9) dX4_isEnd_9 ?_
    refine J_aload_n (pc := 10) dX4_isEnd_10 rfl 0 rfl ?_
    refine get_53_3 (pc := 11) w_1026 dX4_isEnd_11 ?_
    refine J_bipush (v := (13 : Int32)) (pc := 14) dX4_isEnd_14 (by decide) ?_
    refine J_iald (c := 55) (N := 82) (pc := 16) ja_55 (Nat.le_of_ble_eq_true rfl) (vpc rfl) dX4_isEnd_16 ?_
    refine J_topi (x := M.1 55 (Int32.toNatClampNeg 13)) (y := (M.1 55 13)) (Eq.symm (a := M.1 55 (Int32.toNatClampNeg 13)) (show M.1 55 13 = (M.1 55 13) from rfl)) ?_
    refine J_iadd (pc := 17) dX4_isEnd_17 ?_
    refine J_iconst (v := (5 : Int32)) (pc := 18) dX4_isEnd_18 (by decide) ?_
    refine J_icmp_ne (pc := 19) (tgt := 26) dX4_isEnd_19 (by decide) (fun c2 => ?_) (fun c2 => ?_)
    · replace h := ifn c2 h
      refine J_iconst (v := (0 : Int32)) (pc := 26) dX4_isEnd_26 (by decide) ?_
      subst h
      exact J_zreturn dX4_isEnd_27 rfl (Or.inl rfl) rfl rfl rfl rfl
    · replace h := ifp c2 h
      refine J_iconst (v := (1 : Int32)) (pc := 22) dX4_isEnd_22 (by decide) ?_
      refine J_goto (pc := 23) (tgt := 27) dX4_isEnd_23 (by decide) ?_
      subst h
      exact J_zreturn dX4_isEnd_27 rfl (Or.inr rfl) rfl rfl rfl rfl
set_option maxHeartbeats 4000000 in
set_option maxRecDepth 100000 in
theorem k_X4_reaches {E : En} (a1 : Int32) (a2 : Int32) (M : Wd) {M' : Wd} (h : F_X4_reaches a1 a2 M = some M') : Con E mi_X4_reaches [.ref 53, .int a1, .int a2] M (.inl none) M' := by
  unfold F_X4_reaches at h
  refine Con.of (by decide) rfl (Nat.le_of_ble_eq_true rfl) (fun κ => ?_)
  show J κ E mi_X4_reaches _ 0 0 [(0, .ref 53), (1, .int a1), (2, .int a2)] M 0 []
  refine J_aload_n (pc := 0) dX4_reaches_0 rfl 0 rfl ?_
  refine get_53_11 (pc := 1) w_1034 dX4_reaches_1 ?_
  refine J_iload_n (pc := 4) dX4_reaches_4 rfl 1 rfl ?_
  obtain ⟨v1, e2, hk3, h⟩ := ldi_e h
  refine J_iald (c := 59) (N := 4096) (pc := 5) ja_59 (Nat.le_of_ble_eq_true rfl) hk3 dX4_reaches_5 ?_
  refine J_topi e2 ?_
  refine J_iconst (v := (-1 : Int32)) (pc := 6) dX4_reaches_6 (by decide) ?_
  refine J_icmp_ne (pc := 7) (tgt := 37) dX4_reaches_7 (by decide) (fun c4 => ?_) (fun c4 => ?_)
  · replace h := ifn c4 h
    cases h
    exact J_return dX4_reaches_37 rfl rfl rfl rfl rfl
  · replace h := ifp c4 h
    refine J_aload_n (pc := 10) dX4_reaches_10 rfl 0 rfl ?_
    refine get_53_11 (pc := 11) w_1034 dX4_reaches_11 ?_
    refine J_iload_n (pc := 14) dX4_reaches_14 rfl 1 rfl ?_
    refine J_iload_n (pc := 15) dX4_reaches_15 rfl 2 rfl ?_
    obtain ⟨hk5, h⟩ := inb_e h
    refine J_iast (c := 59) (N := 4096) (pc := 16) (fun _ => ja_59) (Nat.le_of_ble_eq_true rfl) hk5 dX4_reaches_16 ?_
    refine J_aload_n (pc := 17) dX4_reaches_17 rfl 0 rfl ?_
    refine get_53_12 (pc := 18) w_1035 dX4_reaches_18 ?_
    refine J_aload_n (pc := 21) dX4_reaches_21 rfl 0 rfl ?_
    refine get_53_14 (pc := 22) w_1037 dX4_reaches_22 ?_
    refine J_topi (y := (M.1 53 14)) (Eq.symm (show (upI M 59 a1.toNatClampNeg a2).1 53 14 = (M.1 53 14) from (eI_ne (Nat.ne_of_beq_eq_false rfl) rfl))) ?_
    refine J_iload_n (pc := 25) dX4_reaches_25 rfl 1 rfl ?_
    obtain ⟨hk6, h⟩ := inb_e h
    refine J_iast (c := 60) (N := 4096) (pc := 26) (fun _ => ja_60) (Nat.le_of_ble_eq_true rfl) hk6 dX4_reaches_26 ?_
    refine J_aload_n (pc := 27) dX4_reaches_27 rfl 0 rfl ?_
    refine J_dup (pc := 28) dX4_reaches_28 rfl ?_
    refine get_53_14 (pc := 29) w_1037 dX4_reaches_29 ?_
    refine J_topi (y := (M.1 53 14)) (Eq.symm (show (upI (upI M 59 a1.toNatClampNeg a2) 60 (M.1 53 14).toNatClampNeg a1).1 53 14 = (M.1 53 14) from (eI_ne (Nat.ne_of_beq_eq_false rfl) (eI_ne (Nat.ne_of_beq_eq_false rfl) rfl)))) ?_
    refine J_iconst (v := (1 : Int32)) (pc := 32) dX4_reaches_32 (by decide) ?_
    refine J_iadd (pc := 33) dX4_reaches_33 ?_
    refine put_53_14 (pc := 34) w_1037 dX4_reaches_34 ?_
    cases h
    exact J_return dX4_reaches_37 rfl rfl rfl rfl rfl
set_option maxHeartbeats 4000000 in
set_option maxRecDepth 100000 in
theorem kL_X4_goes_L40 {κ : Kx} {E : En} {Q : State → Prop} {ρ : Type} {r : ρ} (a1 : Int32) (a2 : Int32) (a3 : Int32) (a6 : Int32) (K129 : Wd → Option ρ) (hK129 : ∀ (M : Wd), K129 M = some r → J κ E mi_X4_goes Q 0 0 [] M 129 []) : ∀ (m : Nat) (x7 : Int32) (x8 : Int32) (M : Wd), F_X4_goes_L40 a1 a2 a3 a6 K129 m x7 x8 M = some r → J κ E mi_X4_goes Q 0 0 [(0, .ref 53), (1, .int a1), (2, .int a2), (3, .int a3), (6, .int a6), (7, .int x7), (8, .int x8)] M 40 [] := by
  intro m
  induction m with
  | zero => intro x7 x8 M h; exact (nomatch (show (none : Option ρ) = some r from h))
  | succ m ih =>
    intro x7 x8 M h
    unfold F_X4_goes_L40 at h
    refine J_iload (pc := 40) dX4_goes_40 6 rfl ?_
    refine J_if_le (pc := 42) (tgt := 129) dX4_goes_42 (by decide) (fun c13 => ?_) (fun c13 => ?_)
    · replace h := ifp c13 h
      refine J_sub [] rfl ?_
      exact hK129 _ h
    · replace h := ifn c13 h
      refine J_iload (pc := 45) dX4_goes_45 5 rfl ?_
      refine J_i2l (pc := 47) dX4_goes_47 ?_
      refine J_lconst (v := (0 : Int64)) (pc := 48) dX4_goes_48 (by decide) ?_
      refine J_ldc2 (pc := 49) w_1108 dX4_goes_49 ?_
      refine J_callS (g := mi_X4_in) (pc := 52) [.long x7.toInt64, .long (0 : Int64), .long (3 : Int64)] [] ms_X4_in w_1104 (k_X4_in x7.toInt64 (0 : Int64) (3 : Int64) _) rfl rfl ⟨⟨Nat.le_of_ble_eq_true rfl, Nat.le_of_ble_eq_true rfl⟩, Nat.le_of_ble_eq_true rfl, Nat.le_of_ble_eq_true rfl⟩ (Nat.le_of_ble_eq_true rfl) dX4_goes_52 (Jk_v rfl rfl fun hok14 => ?_)
      refine J_if_eq (pc := 55) (tgt := 129) dX4_goes_55 (by decide) (fun c15 => ?_) (fun c15 => ?_)
      · replace h := ifp c15 h
        refine J_sub [] rfl ?_
        exact hK129 _ h
      · replace h := ifn c15 h
        refine J_aload_n (pc := 58) dX4_goes_58 rfl 0 rfl ?_
        refine get_53_8 (pc := 59) w_1031 dX4_goes_59 ?_
        refine J_iconst (v := (4 : Int32)) (pc := 62) dX4_goes_62 (by decide) ?_
        refine J_iload_n (pc := 63) dX4_goes_63 rfl 2 rfl ?_
        refine J_imul (pc := 64) dX4_goes_64 ?_
        refine J_iload (pc := 65) dX4_goes_65 5 rfl ?_
        refine J_iadd (pc := 67) dX4_goes_67 ?_
        obtain ⟨v16, e17, hk18, h⟩ := ldi_e h
        refine J_iald (c := 58) (N := 24) (pc := 68) ja_58 (Nat.le_of_ble_eq_true rfl) hk18 dX4_goes_68 ?_
        refine J_topi e17 ?_
        refine J_if_eq (pc := 69) (tgt := 129) dX4_goes_69 (by decide) (fun c19 => ?_) (fun c19 => ?_)
        · replace h := ifp c19 h
          refine J_sub [] rfl ?_
          exact hK129 _ h
        · replace h := ifn c19 h
          refine J_aload_n (pc := 72) dX4_goes_72 rfl 0 rfl ?_
          refine get_53_8 (pc := 73) w_1031 dX4_goes_73 ?_
          refine J_iconst (v := (4 : Int32)) (pc := 76) dX4_goes_76 (by decide) ?_
          refine J_iload_n (pc := 77) dX4_goes_77 rfl 2 rfl ?_
          refine J_imul (pc := 78) dX4_goes_78 ?_
          refine J_iload (pc := 79) dX4_goes_79 5 rfl ?_
          refine J_iadd (pc := 81) dX4_goes_81 ?_
          obtain ⟨v20, e21, hk22, h⟩ := ldi_e h
          refine J_iald (c := 58) (N := 24) (pc := 82) ja_58 (Nat.le_of_ble_eq_true rfl) hk22 dX4_goes_82 ?_
          refine J_topi e21 ?_
          refine J_iload (pc := 83) dX4_goes_83 4 rfl ?_
          refine J_iand (pc := 85) dX4_goes_85 ?_
          refine J_if_ne (pc := 86) (tgt := 129) dX4_goes_86 (by decide) (fun c23 => ?_) (fun c23 => ?_)
          · replace h := ifn c23 h
            refine J_sub [] rfl ?_
            exact hK129 _ h
          · replace h := ifp c23 h
            refine J_aload_n (pc := 89) dX4_goes_89 rfl 0 rfl ?_
            refine J_iload_n (pc := 90) dX4_goes_90 rfl 1 rfl ?_
            refine J_iconst (v := (3 : Int32)) (pc := 91) dX4_goes_91 (by decide) ?_
            refine J_iconst (v := (2 : Int32)) (pc := 92) dX4_goes_92 (by decide) ?_
            refine J_iload_n (pc := 93) dX4_goes_93 rfl 2 rfl ?_
            refine J_imul (pc := 94) dX4_goes_94 ?_
            refine J_ishl (pc := 95) dX4_goes_95 ?_
            refine J_iconst (v := (-1 : Int32)) (pc := 96) dX4_goes_96 (by decide) ?_
            refine J_ixor (pc := 97) dX4_goes_97 ?_
            refine J_iand (pc := 98) dX4_goes_98 ?_
            refine J_iload (pc := 99) dX4_goes_99 5 rfl ?_
            refine J_iconst (v := (2 : Int32)) (pc := 101) dX4_goes_101 (by decide) ?_
            refine J_iload_n (pc := 102) dX4_goes_102 rfl 2 rfl ?_
            refine J_imul (pc := 103) dX4_goes_103 ?_
            refine J_ishl (pc := 104) dX4_goes_104 ?_
            refine J_ior (pc := 105) dX4_goes_105 ?_
            refine J_aload_n (pc := 106) dX4_goes_106 rfl 0 rfl ?_
            refine get_53_11 (pc := 107) w_1034 dX4_goes_107 ?_
            refine J_iload_n (pc := 110) dX4_goes_110 rfl 1 rfl ?_
            obtain ⟨v24, e25, hk26, h⟩ := ldi_e h
            refine J_iald (c := 59) (N := 4096) (pc := 111) ja_59 (Nat.le_of_ble_eq_true rfl) hk26 dX4_goes_111 ?_
            refine J_topi e25 ?_
            refine J_iconst (v := (1 : Int32)) (pc := 112) dX4_goes_112 (by decide) ?_
            refine J_iadd (pc := 113) dX4_goes_113 ?_
            obtain ⟨M27, hc28, h⟩ := obind_e h
            refine J_callV (g := mi_X4_reaches) (ci := 4) (pc := 114) [.int ((a1 &&& (((3 : Int32) <<< (((2 : Int32) * a2) &&& 31)) ^^^ (-1 : Int32))) ||| (x7 <<< (((2 : Int32) * a2) &&& 31))), .int (v24 + (1 : Int32))] [] mv_X4_reaches w_1238 (k_X4_reaches ((a1 &&& (((3 : Int32) <<< (((2 : Int32) * a2) &&& 31)) ^^^ (-1 : Int32))) ||| (x7 <<< (((2 : Int32) * a2) &&& 31))) (v24 + (1 : Int32)) _ hc28) rfl (by decide) rfl rfl rfl ⟨⟨Nat.le_of_ble_eq_true rfl, Nat.le_of_ble_eq_true rfl⟩, Nat.le_of_ble_eq_true rfl, Nat.le_of_ble_eq_true rfl⟩ (Nat.le_of_ble_eq_true rfl) dX4_goes_114 (Jk_0 rfl rfl ?_)
            refine J_iload (pc := 117) dX4_goes_117 5 rfl ?_
            refine J_iload_n (pc := 119) dX4_goes_119 rfl 3 rfl ?_
            refine J_iadd (pc := 120) dX4_goes_120 ?_
            obtain ⟨v29, e30, h⟩ := bnd_e h
            refine J_topi e30 ?_
            refine J_istore (pc := 121) dX4_goes_121 (Nat.le_of_ble_eq_true rfl) [1, 2, 3, 4, 5, 0, 6] rfl ?_
            obtain ⟨v31, e32, h⟩ := bnd_e h
            refine J_iinc (v := v31) (pc := 123) dX4_goes_123 6 rfl (by rw [e32]; rfl) (Nat.le_of_ble_eq_true rfl) [1, 2, 3, 4, 5, 6, 0] rfl ?_
            refine J_LS [(0, .ref 53), (1, .int a1), (2, .int a2), (3, .int a3), (6, .int a6), (7, .int v29), (8, .int v31)] [] rfl rfl ?_
            refine J_goto (pc := 126) (tgt := 40) dX4_goes_126 (by decide) ?_
            exact ih _ _ _ h
set_option maxHeartbeats 4000000 in
set_option maxRecDepth 100000 in
theorem k_X4_goes {E : En} (a1 : Int32) (a2 : Int32) (a3 : Int32) (a4 : Int32) (M : Wd) {M' : Wd} (h : F_X4_goes a1 a2 a3 a4 M = some M') : Con E mi_X4_goes [.ref 53, .int a1, .int a2, .int a3, .int a4] M (.inl none) M' := by
  unfold F_X4_goes at h
  refine Con.of (by decide) rfl (Nat.le_of_ble_eq_true rfl) (fun κ => ?_)
  show J κ E mi_X4_goes _ 0 0 [(0, .ref 53), (1, .int a1), (2, .int a2), (3, .int a3), (4, .int a4)] M 0 []
  refine J_iload_n (pc := 0) dX4_goes_0 rfl 1 rfl ?_
  refine J_iconst (v := (2 : Int32)) (pc := 1) dX4_goes_1 (by decide) ?_
  refine J_iload_n (pc := 2) dX4_goes_2 rfl 2 rfl ?_
  refine J_imul (pc := 3) dX4_goes_3 ?_
  refine J_ishr (pc := 4) dX4_goes_4 ?_
  refine J_iconst (v := (3 : Int32)) (pc := 5) dX4_goes_5 (by decide) ?_
  refine J_iand (pc := 6) dX4_goes_6 ?_
  obtain ⟨v1, e2, h⟩ := bnd_e h
  refine J_topi e2 ?_
  refine J_istore (pc := 7) dX4_goes_7 (Nat.le_of_ble_eq_true rfl) [1, 2, 3, 4, 5, 0] rfl ?_
  refine J_aload_n (pc := 9) dX4_goes_9 rfl 0 rfl ?_
  refine J_iload_n (pc := 10) dX4_goes_10 rfl 1 rfl ?_
  obtain ⟨v3, hc4, h⟩ := obind_e h
  refine J_callV (g := mi_X4_setOf) (ci := 4) (pc := 11) [.int a1] [] mv_X4_setOf w_1250 (k_X4_setOf a1 _ hc4) rfl (by decide) rfl rfl rfl ⟨⟨Nat.le_of_ble_eq_true rfl, Nat.le_of_ble_eq_true rfl⟩, Nat.le_of_ble_eq_true rfl, Nat.le_of_ble_eq_true rfl⟩ (Nat.le_of_ble_eq_true rfl) dX4_goes_11 (Jk_v rfl rfl fun hok5 => ?_)
  refine J_aload_n (pc := 14) dX4_goes_14 rfl 0 rfl ?_
  refine get_53_8 (pc := 15) w_1031 dX4_goes_15 ?_
  refine J_iconst (v := (4 : Int32)) (pc := 18) dX4_goes_18 (by decide) ?_
  refine J_iload_n (pc := 19) dX4_goes_19 rfl 2 rfl ?_
  refine J_imul (pc := 20) dX4_goes_20 ?_
  refine J_iload (pc := 21) dX4_goes_21 5 rfl ?_
  refine J_iadd (pc := 23) dX4_goes_23 ?_
  obtain ⟨v6, e7, hk8, h⟩ := ldi_e h
  refine J_iald (c := 58) (N := 24) (pc := 24) ja_58 (Nat.le_of_ble_eq_true rfl) hk8 dX4_goes_24 ?_
  refine J_topi e7 ?_
  refine J_iconst (v := (-1 : Int32)) (pc := 25) dX4_goes_25 (by decide) ?_
  refine J_ixor (pc := 26) dX4_goes_26 ?_
  refine J_iand (pc := 27) dX4_goes_27 ?_
  obtain ⟨v9, e10, h⟩ := bnd_e h
  refine J_topi e10 ?_
  refine J_istore (pc := 28) dX4_goes_28 (Nat.le_of_ble_eq_true rfl) [1, 2, 3, 4, 5, 6, 0] rfl ?_
  refine J_LS [(0, .ref 53), (1, .int a1), (2, .int a2), (3, .int a3), (4, .int a4), (5, .int v1), (6, .int v9)] [] rfl rfl ?_
  refine J_iload (pc := 30) dX4_goes_30 5 rfl ?_
  refine J_iload_n (pc := 32) dX4_goes_32 rfl 3 rfl ?_
  refine J_iadd (pc := 33) dX4_goes_33 ?_
  obtain ⟨v11, e12, h⟩ := bnd_e h
  refine J_topi e12 ?_
  refine J_istore (pc := 34) dX4_goes_34 (Nat.le_of_ble_eq_true rfl) [1, 2, 3, 4, 5, 6, 7, 0] rfl ?_
  refine J_iload (pc := 36) dX4_goes_36 4 rfl ?_
  refine J_istore (pc := 38) dX4_goes_38 (Nat.le_of_ble_eq_true rfl) [1, 2, 3, 4, 5, 6, 7, 8, 0] rfl ?_
  refine J_LS [(0, .ref 53), (1, .int a1), (2, .int a2), (3, .int a3), (4, .int a4), (5, .int v1), (6, .int v9), (7, .int v11), (8, .int a4)] [] rfl rfl ?_
  refine J_sub [0, 1, 2, 3, 6, 7, 8] rfl ?_
  refine kL_X4_goes_L40 _ _ _ _ _ (fun M33 h => ?_) fuelN _ _ _ h
  cases h
  exact J_return dX4_goes_129 rfl rfl rfl rfl rfl
set_option maxHeartbeats 4000000 in
set_option maxRecDepth 100000 in
theorem kL_X4_spreads_L12 {κ : Kx} {E : En} {Q : State → Prop} {ρ : Type} {r : ρ} (a1 : Int32) (a2 : Int32) (K52 : Wd → Option ρ) (hK52 : ∀ (M : Wd), K52 M = some r → J κ E mi_X4_spreads Q 0 0 [(0, .ref 53), (1, .int a1), (2, .int a2)] M 52 []) : ∀ (m : Nat) (x3 : Int32) (M : Wd), F_X4_spreads_L12 a1 a2 K52 m x3 M = some r → J κ E mi_X4_spreads Q 0 0 [(0, .ref 53), (1, .int a1), (2, .int a2), (3, .int x3)] M 12 [] := by
  intro m
  induction m with
  | zero => intro x3 M h; exact (nomatch (show (none : Option ρ) = some r from h))
  | succ m ih =>
    intro x3 M h
    unfold F_X4_spreads_L12 at h
    refine J_iload_n (pc := 12) dX4_spreads_12 rfl 3 rfl ?_
    refine J_aload_n (pc := 13) dX4_spreads_13 rfl 0 rfl ?_
    refine get_53_9 (pc := 14) w_1032 dX4_spreads_14 ?_
    refine J_icmp_ge (pc := 17) (tgt := 52) dX4_spreads_17 (by decide) (fun c2 => ?_) (fun c2 => ?_)
    · replace h := ifp c2 h
      refine J_sub [0, 1, 2] rfl ?_
      exact hK52 _ h
    · replace h := ifn c2 h
      refine J_aload_n (pc := 20) dX4_spreads_20 rfl 0 rfl ?_
      refine J_aload_n (pc := 21) dX4_spreads_21 rfl 0 rfl ?_
      refine get_53_12 (pc := 22) w_1035 dX4_spreads_22 ?_
      refine J_iload_n (pc := 25) dX4_spreads_25 rfl 2 rfl ?_
      obtain ⟨v3, e4, hk5, h⟩ := ldi_e h
      refine J_iald (c := 60) (N := 4096) (pc := 26) ja_60 (Nat.le_of_ble_eq_true rfl) hk5 dX4_spreads_26 ?_
      refine J_topi e4 ?_
      refine J_iload_n (pc := 27) dX4_spreads_27 rfl 3 rfl ?_
      refine J_iconst (v := (-1 : Int32)) (pc := 28) dX4_spreads_28 (by decide) ?_
      refine J_iload_n (pc := 29) dX4_spreads_29 rfl 1 rfl ?_
      obtain ⟨M6, hc7, h⟩ := obind_e h
      refine J_callV (g := mi_X4_goes) (ci := 4) (pc := 30) [.int v3, .int x3, .int (-1 : Int32), .int a1] [] mv_X4_goes w_1246 (k_X4_goes v3 x3 (-1 : Int32) a1 _ hc7) rfl (by decide) rfl rfl rfl ⟨⟨Nat.le_of_ble_eq_true rfl, Nat.le_of_ble_eq_true rfl⟩, Nat.le_of_ble_eq_true rfl, Nat.le_of_ble_eq_true rfl⟩ (Nat.le_of_ble_eq_true rfl) dX4_spreads_30 (Jk_0 rfl rfl ?_)
      refine J_aload_n (pc := 33) dX4_spreads_33 rfl 0 rfl ?_
      refine J_aload_n (pc := 34) dX4_spreads_34 rfl 0 rfl ?_
      refine get_53_12 (pc := 35) w_1035 dX4_spreads_35 ?_
      refine J_iload_n (pc := 38) dX4_spreads_38 rfl 2 rfl ?_
      obtain ⟨v8, e9, hk10, h⟩ := ldi_e h
      refine J_iald (c := 60) (N := 4096) (pc := 39) ja_60 (Nat.le_of_ble_eq_true rfl) hk10 dX4_spreads_39 ?_
      refine J_topi e9 ?_
      refine J_iload_n (pc := 40) dX4_spreads_40 rfl 3 rfl ?_
      refine J_iconst (v := (1 : Int32)) (pc := 41) dX4_spreads_41 (by decide) ?_
      refine J_iload_n (pc := 42) dX4_spreads_42 rfl 1 rfl ?_
      obtain ⟨M11, hc12, h⟩ := obind_e h
      refine J_callV (g := mi_X4_goes) (ci := 4) (pc := 43) [.int v8, .int x3, .int (1 : Int32), .int a1] [] mv_X4_goes w_1246 (k_X4_goes v8 x3 (1 : Int32) a1 _ hc12) rfl (by decide) rfl rfl rfl ⟨⟨Nat.le_of_ble_eq_true rfl, Nat.le_of_ble_eq_true rfl⟩, Nat.le_of_ble_eq_true rfl, Nat.le_of_ble_eq_true rfl⟩ (Nat.le_of_ble_eq_true rfl) dX4_spreads_43 (Jk_0 rfl rfl ?_)
      obtain ⟨v13, e14, h⟩ := bnd_e h
      refine J_iinc (v := v13) (pc := 46) dX4_spreads_46 3 rfl (by rw [e14]; rfl) (Nat.le_of_ble_eq_true rfl) [1, 2, 3, 0] rfl ?_
      refine J_goto (pc := 49) (tgt := 12) dX4_spreads_49 (by decide) ?_
      exact ih _ _ h
set_option maxHeartbeats 4000000 in
set_option maxRecDepth 100000 in
theorem kL_X4_spreads_L2 {κ : Kx} {E : En} {Q : State → Prop} {ρ : Type} {r : ρ} (a1 : Int32) (K58 : Wd → Option ρ) (hK58 : ∀ (M : Wd), K58 M = some r → J κ E mi_X4_spreads Q 0 0 [] M 58 []) : ∀ (m : Nat) (x2 : Int32) (M : Wd), F_X4_spreads_L2 a1 K58 m x2 M = some r → J κ E mi_X4_spreads Q 0 0 [(0, .ref 53), (1, .int a1), (2, .int x2)] M 2 [] := by
  intro m
  induction m with
  | zero => intro x2 M h; exact (nomatch (show (none : Option ρ) = some r from h))
  | succ m ih =>
    intro x2 M h
    unfold F_X4_spreads_L2 at h
    refine J_iload_n (pc := 2) dX4_spreads_2 rfl 2 rfl ?_
    refine J_aload_n (pc := 3) dX4_spreads_3 rfl 0 rfl ?_
    refine get_53_14 (pc := 4) w_1037 dX4_spreads_4 ?_
    refine J_icmp_ge (pc := 7) (tgt := 58) dX4_spreads_7 (by decide) (fun c1 => ?_) (fun c1 => ?_)
    · replace h := ifp c1 h
      refine J_sub [] rfl ?_
      exact hK58 _ h
    · replace h := ifn c1 h
      refine J_iconst (v := (0 : Int32)) (pc := 10) dX4_spreads_10 (by decide) ?_
      refine J_istore_n (pc := 11) dX4_spreads_11 rfl (Nat.le_of_ble_eq_true rfl) [1, 2, 3, 0] rfl ?_
      refine kL_X4_spreads_L12 _ _ _ (fun M15 h => ?_) fuelN _ _ h
      obtain ⟨v16, e17, h⟩ := bnd_e h
      refine J_iinc (v := v16) (pc := 52) dX4_spreads_52 2 rfl (by rw [e17]; rfl) (Nat.le_of_ble_eq_true rfl) [1, 2, 0] rfl ?_
      refine J_LS [(0, .ref 53), (1, .int a1), (2, .int v16)] [] rfl rfl ?_
      refine J_goto (pc := 55) (tgt := 2) dX4_spreads_55 (by decide) ?_
      exact ih _ _ h
set_option maxHeartbeats 4000000 in
set_option maxRecDepth 100000 in
theorem k_X4_spreads {E : En} (a1 : Int32) (M : Wd) {M' : Wd} (h : F_X4_spreads a1 M = some M') : Con E mi_X4_spreads [.ref 53, .int a1] M (.inl none) M' := by
  unfold F_X4_spreads at h
  refine Con.of (by decide) rfl (Nat.le_of_ble_eq_true rfl) (fun κ => ?_)
  show J κ E mi_X4_spreads _ 0 0 [(0, .ref 53), (1, .int a1)] M 0 []
  refine J_iconst (v := (0 : Int32)) (pc := 0) dX4_spreads_0 (by decide) ?_
  refine J_istore_n (pc := 1) dX4_spreads_1 rfl (Nat.le_of_ble_eq_true rfl) [1, 2, 0] rfl ?_
  refine kL_X4_spreads_L2 _ _ (fun M18 h => ?_) fuelN _ _ h
  cases h
  exact J_return dX4_spreads_58 rfl rfl rfl rfl rfl
set_option maxHeartbeats 4000000 in
set_option maxRecDepth 100000 in
theorem kL_X4_forgets_L2 {κ : Kx} {E : En} {Q : State → Prop} {ρ : Type} {r : ρ} (K22 : Wd → Option ρ) (hK22 : ∀ (M : Wd), K22 M = some r → J κ E mi_X4_forgets Q 0 0 [(0, .ref 53)] M 22 []) : ∀ (m : Nat) (x1 : Int32) (M : Wd), F_X4_forgets_L2 K22 m x1 M = some r → J κ E mi_X4_forgets Q 0 0 [(0, .ref 53), (1, .int x1)] M 2 [] := by
  intro m
  induction m with
  | zero => intro x1 M h; exact (nomatch (show (none : Option ρ) = some r from h))
  | succ m ih =>
    intro x1 M h
    unfold F_X4_forgets_L2 at h
    refine J_iload_n (pc := 2) dX4_forgets_2 rfl 1 rfl ?_
    refine J_sipush (v := (4096 : Int32)) (pc := 3) dX4_forgets_3 (by decide) ?_
    refine J_icmp_ge (pc := 6) (tgt := 22) dX4_forgets_6 (by decide) (fun c1 => ?_) (fun c1 => ?_)
    · replace h := ifp c1 h
      refine J_sub [0] rfl ?_
      exact hK22 _ h
    · replace h := ifn c1 h
      refine J_aload_n (pc := 9) dX4_forgets_9 rfl 0 rfl ?_
      refine get_53_11 (pc := 10) w_1034 dX4_forgets_10 ?_
      refine J_iload_n (pc := 13) dX4_forgets_13 rfl 1 rfl ?_
      refine J_iconst (v := (-1 : Int32)) (pc := 14) dX4_forgets_14 (by decide) ?_
      obtain ⟨hk2, h⟩ := inb_e h
      refine J_iast (c := 59) (N := 4096) (pc := 15) (fun _ => ja_59) (Nat.le_of_ble_eq_true rfl) hk2 dX4_forgets_15 ?_
      obtain ⟨v3, e4, h⟩ := bnd_e h
      refine J_iinc (v := v3) (pc := 16) dX4_forgets_16 1 rfl (by rw [e4]; rfl) (Nat.le_of_ble_eq_true rfl) [1, 0] rfl ?_
      refine J_goto (pc := 19) (tgt := 2) dX4_forgets_19 (by decide) ?_
      exact ih _ _ h
set_option maxHeartbeats 4000000 in
set_option maxRecDepth 100000 in
theorem k_X4_forgets {E : En} (M : Wd) {M' : Wd} (h : F_X4_forgets M = some M') : Con E mi_X4_forgets [.ref 53] M (.inl none) M' := by
  unfold F_X4_forgets at h
  refine Con.of (by decide) rfl (Nat.le_of_ble_eq_true rfl) (fun κ => ?_)
  show J κ E mi_X4_forgets _ 0 0 [(0, .ref 53)] M 0 []
  refine J_iconst (v := (0 : Int32)) (pc := 0) dX4_forgets_0 (by decide) ?_
  refine J_istore_n (pc := 1) dX4_forgets_1 rfl (Nat.le_of_ble_eq_true rfl) [1, 0] rfl ?_
  refine kL_X4_forgets_L2 _ (fun M5 h => ?_) fuelN _ _ h
  refine J_aload_n (pc := 22) dX4_forgets_22 rfl 0 rfl ?_
  refine J_iconst (v := (0 : Int32)) (pc := 23) dX4_forgets_23 (by decide) ?_
  refine put_53_14 (pc := 24) w_1037 dX4_forgets_24 ?_
  cases h
  exact J_return dX4_forgets_27 rfl rfl rfl rfl rfl
set_option maxHeartbeats 4000000 in
set_option maxRecDepth 100000 in
theorem k_X4_from {E : En} (a1 : Int32) (a2 : Int32) (M : Wd) {M' : Wd} (h : F_X4_from a1 a2 M = some M') : Con E mi_X4_from [.ref 53, .int a1, .int a2] M (.inl none) M' := by
  unfold F_X4_from at h
  refine Con.of (by decide) rfl (Nat.le_of_ble_eq_true rfl) (fun κ => ?_)
  show J κ E mi_X4_from _ 0 0 [(0, .ref 53), (1, .int a1), (2, .int a2)] M 0 []
  refine J_aload_n (pc := 0) dX4_from_0 rfl 0 rfl ?_
  obtain ⟨M1, hc2, h⟩ := obind_e h
  refine J_callV (g := mi_X4_forgets) (ci := 4) (pc := 1) [] [] mv_X4_forgets w_1226 (k_X4_forgets _ hc2) rfl (by decide) rfl rfl rfl ⟨⟨Nat.le_of_ble_eq_true rfl, Nat.le_of_ble_eq_true rfl⟩, Nat.le_of_ble_eq_true rfl, Nat.le_of_ble_eq_true rfl⟩ (Nat.le_of_ble_eq_true rfl) dX4_from_1 (Jk_0 rfl rfl ?_)
  refine J_aload_n (pc := 4) dX4_from_4 rfl 0 rfl ?_
  refine J_iload_n (pc := 5) dX4_from_5 rfl 1 rfl ?_
  refine J_iconst (v := (0 : Int32)) (pc := 6) dX4_from_6 (by decide) ?_
  obtain ⟨M3, hc4, h⟩ := obind_e h
  refine J_callV (g := mi_X4_reaches) (ci := 4) (pc := 7) [.int a1, .int (0 : Int32)] [] mv_X4_reaches w_1238 (k_X4_reaches a1 (0 : Int32) _ hc4) rfl (by decide) rfl rfl rfl ⟨⟨Nat.le_of_ble_eq_true rfl, Nat.le_of_ble_eq_true rfl⟩, Nat.le_of_ble_eq_true rfl, Nat.le_of_ble_eq_true rfl⟩ (Nat.le_of_ble_eq_true rfl) dX4_from_7 (Jk_0 rfl rfl ?_)
  refine J_aload_n (pc := 10) dX4_from_10 rfl 0 rfl ?_
  refine J_iload_n (pc := 11) dX4_from_11 rfl 2 rfl ?_
  obtain ⟨M5, hc6, h⟩ := obind_e h
  refine J_callV (g := mi_X4_spreads) (ci := 4) (pc := 12) [.int a2] [] mv_X4_spreads w_1242 (k_X4_spreads a2 _ hc6) rfl (by decide) rfl rfl rfl ⟨⟨Nat.le_of_ble_eq_true rfl, Nat.le_of_ble_eq_true rfl⟩, Nat.le_of_ble_eq_true rfl, Nat.le_of_ble_eq_true rfl⟩ (Nat.le_of_ble_eq_true rfl) dX4_from_12 (Jk_0 rfl rfl ?_)
  cases h
  exact J_return dX4_from_15 rfl rfl rfl rfl rfl
set_option maxHeartbeats 4000000 in
set_option maxRecDepth 100000 in
theorem kL_X4_fromEnds_L6 {κ : Kx} {E : En} {Q : State → Prop} {ρ : Type} {r : ρ} (K46 : Wd → Option ρ) (hK46 : ∀ (M : Wd), K46 M = some r → J κ E mi_X4_fromEnds Q 0 0 [(0, .ref 53)] M 46 []) : ∀ (m : Nat) (x1 : Int32) (M : Wd), F_X4_fromEnds_L6 K46 m x1 M = some r → J κ E mi_X4_fromEnds Q 0 0 [(0, .ref 53), (1, .int x1)] M 6 [] := by
  intro m
  induction m with
  | zero => intro x1 M h; exact (nomatch (show (none : Option ρ) = some r from h))
  | succ m ih =>
    intro x1 M h
    unfold F_X4_fromEnds_L6 at h
    refine J_iload_n (pc := 6) dX4_fromEnds_6 rfl 1 rfl ?_
    refine J_iconst (v := (1 : Int32)) (pc := 7) dX4_fromEnds_7 (by decide) ?_
    refine J_iconst (v := (2 : Int32)) (pc := 8) dX4_fromEnds_8 (by decide) ?_
    refine J_aload_n (pc := 9) dX4_fromEnds_9 rfl 0 rfl ?_
    refine get_53_9 (pc := 10) w_1032 dX4_fromEnds_10 ?_
    refine J_imul (pc := 13) dX4_fromEnds_13 ?_
    refine J_ishl (pc := 14) dX4_fromEnds_14 ?_
    refine J_icmp_ge (pc := 15) (tgt := 46) dX4_fromEnds_15 (by decide) (fun c3 => ?_) (fun c3 => ?_)
    · replace h := ifp c3 h
      refine J_sub [0] rfl ?_
      exact hK46 _ h
    · replace h := ifn c3 h
      refine J_aload_n (pc := 18) dX4_fromEnds_18 rfl 0 rfl ?_
      refine J_iload_n (pc := 19) dX4_fromEnds_19 rfl 1 rfl ?_
      refine J_callV (g := mi_X4_isEnd) (ci := 4) (pc := 20) [.int x1] [] mv_X4_isEnd w_1230 (k_X4_isEnd x1 _) rfl (by decide) rfl rfl rfl ⟨⟨Nat.le_of_ble_eq_true rfl, Nat.le_of_ble_eq_true rfl⟩, Nat.le_of_ble_eq_true rfl, Nat.le_of_ble_eq_true rfl⟩ (Nat.le_of_ble_eq_true rfl) dX4_fromEnds_20 (Jk_v rfl rfl fun hok4 => ?_)
      obtain ⟨M5, hv13, h⟩ := obind_e h
      refine J_join [(0, .ref 53), (1, .int x1)] M5 40 [] ?_ (fun hJ => ?_)
      · obtain ⟨v14, e15, h⟩ := bnd_e h
        refine J_iinc (v := v14) (pc := 40) dX4_fromEnds_40 1 rfl (by rw [e15]; rfl) (Nat.le_of_ble_eq_true rfl) [1, 0] rfl ?_
        refine J_goto (pc := 43) (tgt := 6) dX4_fromEnds_43 (by decide) ?_
        exact ih _ _ h
      · replace h := hv13
        refine J_if_eq (pc := 23) (tgt := 40) dX4_fromEnds_23 (by decide) (fun c6 => ?_) (fun c6 => ?_)
        · replace h := ifp c6 h
          cases h
          exact hJ
        · replace h := ifn c6 h
          refine J_aload_n (pc := 26) dX4_fromEnds_26 rfl 0 rfl ?_
          refine J_iload_n (pc := 27) dX4_fromEnds_27 rfl 1 rfl ?_
          obtain ⟨v7, hc8, h⟩ := obind_e h
          refine J_callV (g := mi_X4_isWhole) (ci := 4) (pc := 28) [.int x1] [] mv_X4_isWhole w_1234 (k_X4_isWhole x1 _ hc8) rfl (by decide) rfl rfl rfl ⟨⟨Nat.le_of_ble_eq_true rfl, Nat.le_of_ble_eq_true rfl⟩, Nat.le_of_ble_eq_true rfl, Nat.le_of_ble_eq_true rfl⟩ (Nat.le_of_ble_eq_true rfl) dX4_fromEnds_28 (Jk_v rfl rfl fun hok9 => ?_)
          refine J_if_eq (pc := 31) (tgt := 40) dX4_fromEnds_31 (by decide) (fun c10 => ?_) (fun c10 => ?_)
          · replace h := ifp c10 h
            cases h
            exact hJ
          · replace h := ifn c10 h
            refine J_aload_n (pc := 34) dX4_fromEnds_34 rfl 0 rfl ?_
            refine J_iload_n (pc := 35) dX4_fromEnds_35 rfl 1 rfl ?_
            refine J_iconst (v := (0 : Int32)) (pc := 36) dX4_fromEnds_36 (by decide) ?_
            obtain ⟨M11, hc12, h⟩ := obind_e h
            refine J_callV (g := mi_X4_reaches) (ci := 4) (pc := 37) [.int x1, .int (0 : Int32)] [] mv_X4_reaches w_1238 (k_X4_reaches x1 (0 : Int32) _ hc12) rfl (by decide) rfl rfl rfl ⟨⟨Nat.le_of_ble_eq_true rfl, Nat.le_of_ble_eq_true rfl⟩, Nat.le_of_ble_eq_true rfl, Nat.le_of_ble_eq_true rfl⟩ (Nat.le_of_ble_eq_true rfl) dX4_fromEnds_37 (Jk_0 rfl rfl ?_)
            cases h
            exact hJ
set_option maxHeartbeats 4000000 in
set_option maxRecDepth 100000 in
theorem k_X4_fromEnds {E : En} (M : Wd) {M' : Wd} (h : F_X4_fromEnds M = some M') : Con E mi_X4_fromEnds [.ref 53] M (.inl none) M' := by
  unfold F_X4_fromEnds at h
  refine Con.of (by decide) rfl (Nat.le_of_ble_eq_true rfl) (fun κ => ?_)
  show J κ E mi_X4_fromEnds _ 0 0 [(0, .ref 53)] M 0 []
  refine J_aload_n (pc := 0) dX4_fromEnds_0 rfl 0 rfl ?_
  obtain ⟨M1, hc2, h⟩ := obind_e h
  refine J_callV (g := mi_X4_forgets) (ci := 4) (pc := 1) [] [] mv_X4_forgets w_1226 (k_X4_forgets _ hc2) rfl (by decide) rfl rfl rfl ⟨⟨Nat.le_of_ble_eq_true rfl, Nat.le_of_ble_eq_true rfl⟩, Nat.le_of_ble_eq_true rfl, Nat.le_of_ble_eq_true rfl⟩ (Nat.le_of_ble_eq_true rfl) dX4_fromEnds_1 (Jk_0 rfl rfl ?_)
  refine J_iconst (v := (0 : Int32)) (pc := 4) dX4_fromEnds_4 (by decide) ?_
  refine J_istore_n (pc := 5) dX4_fromEnds_5 rfl (Nat.le_of_ble_eq_true rfl) [1, 0] rfl ?_
  refine kL_X4_fromEnds_L6 _ (fun M16 h => ?_) fuelN _ _ h
  refine J_aload_n (pc := 46) dX4_fromEnds_46 rfl 0 rfl ?_
  refine J_iconst (v := (3 : Int32)) (pc := 47) dX4_fromEnds_47 (by decide) ?_
  obtain ⟨M17, hc18, h⟩ := obind_e h
  refine J_callV (g := mi_X4_spreads) (ci := 4) (pc := 48) [.int (3 : Int32)] [] mv_X4_spreads w_1242 (k_X4_spreads (3 : Int32) _ hc18) rfl (by decide) rfl rfl rfl ⟨⟨Nat.le_of_ble_eq_true rfl, Nat.le_of_ble_eq_true rfl⟩, Nat.le_of_ble_eq_true rfl, Nat.le_of_ble_eq_true rfl⟩ (Nat.le_of_ble_eq_true rfl) dX4_fromEnds_48 (Jk_0 rfl rfl ?_)
  cases h
  exact J_return dX4_fromEnds_51 rfl rfl rfl rfl rfl
set_option maxHeartbeats 4000000 in
set_option maxRecDepth 100000 in
theorem kL_X4_leastEnd_L4 {κ : Kx} {E : En} {Q : State → Prop} {ρ : Type} {r : ρ} (M : Wd) (K66 : Int32 → Option ρ) (hK66 : ∀ (x1 : Int32), K66 x1 = some r → J κ E mi_X4_leastEnd Q 0 0 [(1, .int x1)] M 66 []) : ∀ (m : Nat) (x1 : Int32) (x2 : Int32), F_X4_leastEnd_L4 M K66 m x1 x2 = some r → J κ E mi_X4_leastEnd Q 0 0 [(0, .ref 53), (1, .int x1), (2, .int x2)] M 4 [] := by
  intro m
  induction m with
  | zero => intro x1 x2 h; exact (nomatch (show (none : Option ρ) = some r from h))
  | succ m ih =>
    intro x1 x2 h
    unfold F_X4_leastEnd_L4 at h
    refine J_iload_n (pc := 4) dX4_leastEnd_4 rfl 2 rfl ?_
    refine J_iconst (v := (1 : Int32)) (pc := 5) dX4_leastEnd_5 (by decide) ?_
    refine J_iconst (v := (2 : Int32)) (pc := 6) dX4_leastEnd_6 (by decide) ?_
    refine J_aload_n (pc := 7) dX4_leastEnd_7 rfl 0 rfl ?_
    refine get_53_9 (pc := 8) w_1032 dX4_leastEnd_8 ?_
    refine J_imul (pc := 11) dX4_leastEnd_11 ?_
    refine J_ishl (pc := 12) dX4_leastEnd_12 ?_
    refine J_icmp_ge (pc := 13) (tgt := 66) dX4_leastEnd_13 (by decide) (fun c1 => ?_) (fun c1 => ?_)
    · replace h := ifp c1 h
      refine J_sub [1] rfl ?_
      exact hK66 _ h
    · replace h := ifn c1 h
      refine J_aload_n (pc := 16) dX4_leastEnd_16 rfl 0 rfl ?_
      refine J_iload_n (pc := 17) dX4_leastEnd_17 rfl 2 rfl ?_
      refine J_callV (g := mi_X4_isEnd) (ci := 4) (pc := 18) [.int x2] [] mv_X4_isEnd w_1230 (k_X4_isEnd x2 _) rfl (by decide) rfl rfl rfl ⟨⟨Nat.le_of_ble_eq_true rfl, Nat.le_of_ble_eq_true rfl⟩, Nat.le_of_ble_eq_true rfl, Nat.le_of_ble_eq_true rfl⟩ (Nat.le_of_ble_eq_true rfl) dX4_leastEnd_18 (Jk_v rfl rfl fun hok2 => ?_)
      obtain ⟨v3, hv20, h⟩ := obind_e h
      refine J_join [(0, .ref 53), (2, .int x2)] M 59 [.int v3] ?_ (fun hJ => ?_)
      · refine J_istore_n (pc := 59) dX4_leastEnd_59 rfl (Nat.le_of_ble_eq_true rfl) [1, 0, 2] rfl ?_
        obtain ⟨v21, e22, h⟩ := bnd_e h
        refine J_iinc (v := v21) (pc := 60) dX4_leastEnd_60 2 rfl (by rw [e22]; rfl) (Nat.le_of_ble_eq_true rfl) [1, 2, 0] rfl ?_
        refine J_LS [(0, .ref 53), (1, .int v3), (2, .int v21)] [] rfl rfl ?_
        refine J_goto (pc := 63) (tgt := 4) dX4_leastEnd_63 (by decide) ?_
        exact ih _ _ h
      · replace h := hv20
        refine J_if_eq (pc := 21) (tgt := 58) dX4_leastEnd_21 (by decide) (fun c4 => ?_) (fun c4 => ?_)
        · replace h := ifp c4 h
          refine J_iload_n (pc := 58) dX4_leastEnd_58 rfl 1 rfl ?_
          cases h
          refine J_sub [0, 2] rfl ?_
          exact hJ
        · replace h := ifn c4 h
          refine J_aload_n (pc := 24) dX4_leastEnd_24 rfl 0 rfl ?_
          refine get_53_11 (pc := 25) w_1034 dX4_leastEnd_25 ?_
          refine J_iload_n (pc := 28) dX4_leastEnd_28 rfl 2 rfl ?_
          obtain ⟨v5, e6, hk7, h⟩ := ldi_e h
          refine J_iald (c := 59) (N := 4096) (pc := 29) ja_59 (Nat.le_of_ble_eq_true rfl) hk7 dX4_leastEnd_29 ?_
          refine J_topi e6 ?_
          refine J_iconst (v := (-1 : Int32)) (pc := 30) dX4_leastEnd_30 (by decide) ?_
          refine J_icmp_eq (pc := 31) (tgt := 58) dX4_leastEnd_31 (by decide) (fun c8 => ?_) (fun c8 => ?_)
          · replace h := ifp c8 h
            refine J_iload_n (pc := 58) dX4_leastEnd_58 rfl 1 rfl ?_
            cases h
            refine J_sub [0, 2] rfl ?_
            exact hJ
          · replace h := ifn c8 h
            refine J_iload_n (pc := 34) dX4_leastEnd_34 rfl 1 rfl ?_
            refine J_iconst (v := (-1 : Int32)) (pc := 35) dX4_leastEnd_35 (by decide) ?_
            refine J_icmp_eq (pc := 36) (tgt := 49) dX4_leastEnd_36 (by decide) (fun c9 => ?_) (fun c9 => ?_)
            · replace h := ifp c9 h
              refine J_aload_n (pc := 49) dX4_leastEnd_49 rfl 0 rfl ?_
              refine get_53_11 (pc := 50) w_1034 dX4_leastEnd_50 ?_
              refine J_iload_n (pc := 53) dX4_leastEnd_53 rfl 2 rfl ?_
              obtain ⟨v10, e11, hk12, h⟩ := ldi_e h
              refine J_iald (c := 59) (N := 4096) (pc := 54) ja_59 (Nat.le_of_ble_eq_true rfl) hk12 dX4_leastEnd_54 ?_
              refine J_topi e11 ?_
              refine J_goto (pc := 55) (tgt := 59) dX4_leastEnd_55 (by decide) ?_
              cases h
              refine J_sub [0, 2] rfl ?_
              exact hJ
            · replace h := ifn c9 h
              refine J_aload_n (pc := 39) dX4_leastEnd_39 rfl 0 rfl ?_
              refine get_53_11 (pc := 40) w_1034 dX4_leastEnd_40 ?_
              refine J_iload_n (pc := 43) dX4_leastEnd_43 rfl 2 rfl ?_
              obtain ⟨v13, e14, hk15, h⟩ := ldi_e h
              refine J_iald (c := 59) (N := 4096) (pc := 44) ja_59 (Nat.le_of_ble_eq_true rfl) hk15 dX4_leastEnd_44 ?_
              refine J_topi e14 ?_
              refine J_iload_n (pc := 45) dX4_leastEnd_45 rfl 1 rfl ?_
              refine J_icmp_ge (pc := 46) (tgt := 58) dX4_leastEnd_46 (by decide) (fun c16 => ?_) (fun c16 => ?_)
              · replace h := ifp c16 h
                refine J_iload_n (pc := 58) dX4_leastEnd_58 rfl 1 rfl ?_
                cases h
                refine J_sub [0, 2] rfl ?_
                exact hJ
              · replace h := ifn c16 h
                refine J_aload_n (pc := 49) dX4_leastEnd_49 rfl 0 rfl ?_
                refine get_53_11 (pc := 50) w_1034 dX4_leastEnd_50 ?_
                refine J_iload_n (pc := 53) dX4_leastEnd_53 rfl 2 rfl ?_
                obtain ⟨v17, e18, hk19, h⟩ := ldi_e h
                refine J_iald (c := 59) (N := 4096) (pc := 54) ja_59 (Nat.le_of_ble_eq_true rfl) hk19 dX4_leastEnd_54 ?_
                refine J_topi e18 ?_
                refine J_goto (pc := 55) (tgt := 59) dX4_leastEnd_55 (by decide) ?_
                cases h
                refine J_sub [0, 2] rfl ?_
                exact hJ
set_option maxHeartbeats 4000000 in
set_option maxRecDepth 100000 in
theorem k_X4_leastEnd {E : En} (M : Wd) {r : Int32} (h : F_X4_leastEnd M = some r) : Con E mi_X4_leastEnd [.ref 53] M (.inl (some (.int r))) M := by
  unfold F_X4_leastEnd at h
  refine Con.of (by decide) rfl (Nat.le_of_ble_eq_true rfl) (fun κ => ?_)
  show J κ E mi_X4_leastEnd _ 0 0 [(0, .ref 53)] M 0 []
  refine J_iconst (v := (-1 : Int32)) (pc := 0) dX4_leastEnd_0 (by decide) ?_
  refine J_istore_n (pc := 1) dX4_leastEnd_1 rfl (Nat.le_of_ble_eq_true rfl) [1, 0] rfl ?_
  refine J_iconst (v := (0 : Int32)) (pc := 2) dX4_leastEnd_2 (by decide) ?_
  refine J_istore_n (pc := 3) dX4_leastEnd_3 rfl (Nat.le_of_ble_eq_true rfl) [1, 2, 0] rfl ?_
  refine J_LS [(0, .ref 53), (1, .int (-1 : Int32)), (2, .int (0 : Int32))] [] rfl rfl ?_
  refine kL_X4_leastEnd_L4 _ _ (fun v23 h => ?_) fuelN _ _ h
  refine J_iload_n (pc := 66) dX4_leastEnd_66 rfl 0 rfl ?_
  cases h
  exact J_ireturn dX4_leastEnd_67 rfl rfl rfl rfl rfl
set_option maxHeartbeats 4000000 in
set_option maxRecDepth 100000 in
theorem k_X4_fewest {E : En} (a1 : Int32) (M : Wd) {r : Int32} {M' : Wd} (h : F_X4_fewest a1 M = some (r, M')) : Con E mi_X4_fewest [.ref 53, .int a1] M (.inl (some (.int r))) M' := by
  unfold F_X4_fewest at h
  refine Con.of (by decide) rfl (Nat.le_of_ble_eq_true rfl) (fun κ => ?_)
  show J κ E mi_X4_fewest _ 0 0 [(0, .ref 53), (1, .int a1)] M 0 []
  refine J_aload_n (pc := 0) dX4_fewest_0 rfl 0 rfl ?_
  refine J_aload_n (pc := 1) dX4_fewest_1 rfl 0 rfl ?_
  refine get_53_3 (pc := 2) w_1026 dX4_fewest_2 ?_
  refine J_iconst (v := (0 : Int32)) (pc := 5) dX4_fewest_5 (by decide) ?_
  refine J_iald (c := 55) (N := 82) (pc := 6) ja_55 (Nat.le_of_ble_eq_true rfl) (vpc rfl) dX4_fewest_6 ?_
  refine J_topi (x := M.1 55 (Int32.toNatClampNeg 0)) (y := (M.1 55 0)) (Eq.symm (a := M.1 55 (Int32.toNatClampNeg 0)) (show M.1 55 0 = (M.1 55 0) from rfl)) ?_
  refine J_aload_n (pc := 7) dX4_fewest_7 rfl 0 rfl ?_
  refine get_53_3 (pc := 8) w_1026 dX4_fewest_8 ?_
  refine J_bipush (v := (19 : Int32)) (pc := 11) dX4_fewest_11 (by decide) ?_
  refine J_iald (c := 55) (N := 82) (pc := 13) ja_55 (Nat.le_of_ble_eq_true rfl) (vpc rfl) dX4_fewest_13 ?_
  refine J_topi (x := M.1 55 (Int32.toNatClampNeg 19)) (y := (M.1 55 19)) (Eq.symm (a := M.1 55 (Int32.toNatClampNeg 19)) (show M.1 55 19 = (M.1 55 19) from rfl)) ?_
  obtain ⟨M1, hc2, h⟩ := obind_e h
  refine J_callV (g := mi_X4_prepares) (ci := 4) (pc := 14) [.int (M.1 55 0), .int (M.1 55 19)] [] mv_X4_prepares w_1218 (k_X4_prepares (M.1 55 0) (M.1 55 19) _ hc2) rfl (by decide) rfl rfl rfl ⟨⟨Nat.le_of_ble_eq_true rfl, Nat.le_of_ble_eq_true rfl⟩, Nat.le_of_ble_eq_true rfl, Nat.le_of_ble_eq_true rfl⟩ (Nat.le_of_ble_eq_true rfl) dX4_fewest_14 (Jk_0 rfl rfl ?_)
  refine J_aload_n (pc := 17) dX4_fewest_17 rfl 0 rfl ?_
  refine get_53_9 (pc := 18) w_1032 dX4_fewest_18 ?_
  refine J_if_ne (pc := 21) (tgt := 26) dX4_fewest_21 (by decide) (fun c3 => ?_) (fun c3 => ?_)
  · replace h := ifn c3 h
    refine J_aload_n (pc := 26) dX4_fewest_26 rfl 0 rfl ?_
    refine J_aload_n (pc := 27) dX4_fewest_27 rfl 0 rfl ?_
    obtain ⟨v4, hc5, h⟩ := obind_e h
    refine J_callV (g := mi_X4_codeNow) (ci := 4) (pc := 28) [] [.ref 53] mv_X4_codeNow w_1254 (k_X4_codeNow _ hc5) rfl (by decide) rfl rfl rfl ⟨⟨Nat.le_of_ble_eq_true rfl, Nat.le_of_ble_eq_true rfl⟩, Nat.le_of_ble_eq_true rfl, Nat.le_of_ble_eq_true rfl⟩ (Nat.le_of_ble_eq_true rfl) dX4_fewest_28 (Jk_v rfl rfl fun hok6 => ?_)
    refine J_iload_n (pc := 31) dX4_fewest_31 rfl 1 rfl ?_
    obtain ⟨M7, hc8, h⟩ := obind_e h
    refine J_callV (g := mi_X4_from) (ci := 4) (pc := 32) [.int v4, .int a1] [] mv_X4_from w_1453 (k_X4_from v4 a1 _ hc8) rfl (by decide) rfl rfl rfl ⟨⟨Nat.le_of_ble_eq_true rfl, Nat.le_of_ble_eq_true rfl⟩, Nat.le_of_ble_eq_true rfl, Nat.le_of_ble_eq_true rfl⟩ (Nat.le_of_ble_eq_true rfl) dX4_fewest_32 (Jk_0 rfl rfl ?_)
    refine J_aload_n (pc := 35) dX4_fewest_35 rfl 0 rfl ?_
    obtain ⟨v9, hc10, h⟩ := obind_e h
    refine J_callV (g := mi_X4_leastEnd) (ci := 4) (pc := 36) [] [] mv_X4_leastEnd w_1457 (k_X4_leastEnd _ hc10) rfl (by decide) rfl rfl rfl ⟨⟨Nat.le_of_ble_eq_true rfl, Nat.le_of_ble_eq_true rfl⟩, Nat.le_of_ble_eq_true rfl, Nat.le_of_ble_eq_true rfl⟩ (Nat.le_of_ble_eq_true rfl) dX4_fewest_36 (Jk_v rfl rfl fun hok11 => ?_)
    cases h
    exact J_ireturn dX4_fewest_39 rfl rfl rfl rfl rfl
  · replace h := ifp c3 h
    refine J_iconst (v := (-1 : Int32)) (pc := 24) dX4_fewest_24 (by decide) ?_
    cases h
    exact J_ireturn dX4_fewest_25 rfl rfl rfl rfl rfl
set_option maxHeartbeats 4000000 in
set_option maxRecDepth 100000 in
theorem k_X4_fewestEnds {E : En} (M : Wd) {r : Int32} {M' : Wd} (h : F_X4_fewestEnds M = some (r, M')) : Con E mi_X4_fewestEnds [.ref 53] M (.inl (some (.int r))) M' := by
  unfold F_X4_fewestEnds at h
  refine Con.of (by decide) rfl (Nat.le_of_ble_eq_true rfl) (fun κ => ?_)
  show J κ E mi_X4_fewestEnds _ 0 0 [(0, .ref 53)] M 0 []
  refine J_aload_n (pc := 0) dX4_fewestEnds_0 rfl 0 rfl ?_
  refine J_aload_n (pc := 1) dX4_fewestEnds_1 rfl 0 rfl ?_
  refine get_53_3 (pc := 2) w_1026 dX4_fewestEnds_2 ?_
  refine J_iconst (v := (0 : Int32)) (pc := 5) dX4_fewestEnds_5 (by decide) ?_
  refine J_iald (c := 55) (N := 82) (pc := 6) ja_55 (Nat.le_of_ble_eq_true rfl) (vpc rfl) dX4_fewestEnds_6 ?_
  refine J_topi (x := M.1 55 (Int32.toNatClampNeg 0)) (y := (M.1 55 0)) (Eq.symm (a := M.1 55 (Int32.toNatClampNeg 0)) (show M.1 55 0 = (M.1 55 0) from rfl)) ?_
  refine J_aload_n (pc := 7) dX4_fewestEnds_7 rfl 0 rfl ?_
  refine get_53_3 (pc := 8) w_1026 dX4_fewestEnds_8 ?_
  refine J_bipush (v := (19 : Int32)) (pc := 11) dX4_fewestEnds_11 (by decide) ?_
  refine J_iald (c := 55) (N := 82) (pc := 13) ja_55 (Nat.le_of_ble_eq_true rfl) (vpc rfl) dX4_fewestEnds_13 ?_
  refine J_topi (x := M.1 55 (Int32.toNatClampNeg 19)) (y := (M.1 55 19)) (Eq.symm (a := M.1 55 (Int32.toNatClampNeg 19)) (show M.1 55 19 = (M.1 55 19) from rfl)) ?_
  obtain ⟨M1, hc2, h⟩ := obind_e h
  refine J_callV (g := mi_X4_prepares) (ci := 4) (pc := 14) [.int (M.1 55 0), .int (M.1 55 19)] [] mv_X4_prepares w_1218 (k_X4_prepares (M.1 55 0) (M.1 55 19) _ hc2) rfl (by decide) rfl rfl rfl ⟨⟨Nat.le_of_ble_eq_true rfl, Nat.le_of_ble_eq_true rfl⟩, Nat.le_of_ble_eq_true rfl, Nat.le_of_ble_eq_true rfl⟩ (Nat.le_of_ble_eq_true rfl) dX4_fewestEnds_14 (Jk_0 rfl rfl ?_)
  refine J_aload_n (pc := 17) dX4_fewestEnds_17 rfl 0 rfl ?_
  obtain ⟨M3, hc4, h⟩ := obind_e h
  refine J_callV (g := mi_X4_fromEnds) (ci := 4) (pc := 18) [] [] mv_X4_fromEnds w_1222 (k_X4_fromEnds _ hc4) rfl (by decide) rfl rfl rfl ⟨⟨Nat.le_of_ble_eq_true rfl, Nat.le_of_ble_eq_true rfl⟩, Nat.le_of_ble_eq_true rfl, Nat.le_of_ble_eq_true rfl⟩ (Nat.le_of_ble_eq_true rfl) dX4_fewestEnds_18 (Jk_0 rfl rfl ?_)
  refine J_aload_n (pc := 21) dX4_fewestEnds_21 rfl 0 rfl ?_
  refine get_53_9 (pc := 22) w_1032 dX4_fewestEnds_22 ?_
  refine J_if_ne (pc := 25) (tgt := 32) dX4_fewestEnds_25 (by decide) (fun c5 => ?_) (fun c5 => ?_)
  · replace h := ifn c5 h
    refine J_aload_n (pc := 32) dX4_fewestEnds_32 rfl 0 rfl ?_
    refine get_53_11 (pc := 33) w_1034 dX4_fewestEnds_33 ?_
    refine J_aload_n (pc := 36) dX4_fewestEnds_36 rfl 0 rfl ?_
    obtain ⟨v6, hc7, h⟩ := obind_e h
    refine J_callV (g := mi_X4_codeNow) (ci := 4) (pc := 37) [] [.ref 59] mv_X4_codeNow w_1254 (k_X4_codeNow _ hc7) rfl (by decide) rfl rfl rfl ⟨⟨Nat.le_of_ble_eq_true rfl, Nat.le_of_ble_eq_true rfl⟩, Nat.le_of_ble_eq_true rfl, Nat.le_of_ble_eq_true rfl⟩ (Nat.le_of_ble_eq_true rfl) dX4_fewestEnds_37 (Jk_v rfl rfl fun hok8 => ?_)
    obtain ⟨v9, e10, hk11, h⟩ := ldi_e h
    refine J_iald (c := 59) (N := 4096) (pc := 40) ja_59 (Nat.le_of_ble_eq_true rfl) hk11 dX4_fewestEnds_40 ?_
    refine J_topi e10 ?_
    cases h
    exact J_ireturn dX4_fewestEnds_41 rfl rfl rfl rfl rfl
  · replace h := ifp c5 h
    refine J_iconst (v := (-1 : Int32)) (pc := 28) dX4_fewestEnds_28 (by decide) ?_
    refine J_goto (pc := 29) (tgt := 41) dX4_fewestEnds_29 (by decide) ?_
    cases h
    exact J_ireturn dX4_fewestEnds_41 rfl rfl rfl rfl rfl
set_option maxHeartbeats 4000000 in
set_option maxRecDepth 100000 in
theorem k_X4_cheapens {E : En} (a1 : Int32) (a2 : Int32) (M : Wd) {M' : Wd} (h : F_X4_cheapens a1 a2 M = some M') : Con E mi_X4_cheapens [.ref 53, .int a1, .int a2] M (.inl none) M' := by
  unfold F_X4_cheapens at h
  refine Con.of (by decide) rfl (Nat.le_of_ble_eq_true rfl) (fun κ => ?_)
  show J κ E mi_X4_cheapens _ 0 0 [(0, .ref 53), (1, .int a1), (2, .int a2)] M 0 []
  refine J_aload_n (pc := 0) dX4_cheapens_0 rfl 0 rfl ?_
  refine get_53_11 (pc := 1) w_1034 dX4_cheapens_1 ?_
  refine J_iload_n (pc := 4) dX4_cheapens_4 rfl 1 rfl ?_
  obtain ⟨v1, e2, hk3, h⟩ := ldi_e h
  refine J_iald (c := 59) (N := 4096) (pc := 5) ja_59 (Nat.le_of_ble_eq_true rfl) hk3 dX4_cheapens_5 ?_
  refine J_topi e2 ?_
  refine J_iconst (v := (-1 : Int32)) (pc := 6) dX4_cheapens_6 (by decide) ?_
  refine J_icmp_eq (pc := 7) (tgt := 20) dX4_cheapens_7 (by decide) (fun c4 => ?_) (fun c4 => ?_)
  · replace h := ifp c4 h
    refine J_aload_n (pc := 20) dX4_cheapens_20 rfl 0 rfl ?_
    refine get_53_11 (pc := 21) w_1034 dX4_cheapens_21 ?_
    refine J_iload_n (pc := 24) dX4_cheapens_24 rfl 1 rfl ?_
    refine J_iload_n (pc := 25) dX4_cheapens_25 rfl 2 rfl ?_
    obtain ⟨hk5, h⟩ := inb_e h
    refine J_iast (c := 59) (N := 4096) (pc := 26) (fun _ => ja_59) (Nat.le_of_ble_eq_true rfl) hk5 dX4_cheapens_26 ?_
    refine J_aload_n (pc := 27) dX4_cheapens_27 rfl 0 rfl ?_
    refine get_53_13 (pc := 28) w_1036 dX4_cheapens_28 ?_
    refine J_iload_n (pc := 31) dX4_cheapens_31 rfl 1 rfl ?_
    obtain ⟨v6, e7, hk8, h⟩ := ldi_e h
    refine J_zald (pc := 32) hk8 dX4_cheapens_32 ?_
    refine J_topi (e7.trans (congrFun (Eq.symm (show (upI M 59 a1.toNatClampNeg a2).1 61 = M.1 61 from (rI_ne (Nat.ne_of_beq_eq_false rfl) rfl))) _)) ?_
    refine J_if_ne (pc := 33) (tgt := 67) dX4_cheapens_33 (by decide) (fun c9 => ?_) (fun c9 => ?_)
    · replace h := ifn c9 h
      cases h
      exact J_return dX4_cheapens_67 rfl rfl rfl rfl rfl
    · replace h := ifp c9 h
      refine J_aload_n (pc := 36) dX4_cheapens_36 rfl 0 rfl ?_
      refine get_53_13 (pc := 37) w_1036 dX4_cheapens_37 ?_
      refine J_iload_n (pc := 40) dX4_cheapens_40 rfl 1 rfl ?_
      refine J_iconst (v := (1 : Int32)) (pc := 41) dX4_cheapens_41 (by decide) ?_
      obtain ⟨hk10, h⟩ := inb_e h
      refine J_zast (pc := 42) (vp_b (Or.inr rfl)) hk10 dX4_cheapens_42 ?_
      refine J_aload_n (pc := 43) dX4_cheapens_43 rfl 0 rfl ?_
      refine get_53_12 (pc := 44) w_1035 dX4_cheapens_44 ?_
      refine J_aload_n (pc := 47) dX4_cheapens_47 rfl 0 rfl ?_
      refine get_53_14 (pc := 48) w_1037 dX4_cheapens_48 ?_
      refine J_topi (y := (M.1 53 14)) (Eq.symm (show (upI (upI M 59 a1.toNatClampNeg a2) 61 a1.toNatClampNeg (1 : Int32)).1 53 14 = (M.1 53 14) from (eI_ne (Nat.ne_of_beq_eq_false rfl) (eI_ne (Nat.ne_of_beq_eq_false rfl) rfl)))) ?_
      refine J_sipush (v := (4096 : Int32)) (pc := 51) dX4_cheapens_51 (by decide) ?_
      refine J_irem (pc := 54) dX4_cheapens_54 (by decide) ?_
      refine J_iload_n (pc := 55) dX4_cheapens_55 rfl 1 rfl ?_
      obtain ⟨hk11, h⟩ := inb_e h
      refine J_iast (c := 60) (N := 4096) (pc := 56) (fun _ => ja_60) (Nat.le_of_ble_eq_true rfl) hk11 dX4_cheapens_56 ?_
      refine J_aload_n (pc := 57) dX4_cheapens_57 rfl 0 rfl ?_
      refine J_dup (pc := 58) dX4_cheapens_58 rfl ?_
      refine get_53_14 (pc := 59) w_1037 dX4_cheapens_59 ?_
      refine J_topi (y := (M.1 53 14)) (Eq.symm (show (upI (upI (upI M 59 a1.toNatClampNeg a2) 61 a1.toNatClampNeg (1 : Int32)) 60 ((M.1 53 14) - (M.1 53 14) / (4096 : Int32) * (4096 : Int32)).toNatClampNeg a1).1 53 14 = (M.1 53 14) from (eI_ne (Nat.ne_of_beq_eq_false rfl) (eI_ne (Nat.ne_of_beq_eq_false rfl) (eI_ne (Nat.ne_of_beq_eq_false rfl) rfl))))) ?_
      refine J_iconst (v := (1 : Int32)) (pc := 62) dX4_cheapens_62 (by decide) ?_
      refine J_iadd (pc := 63) dX4_cheapens_63 ?_
      refine put_53_14 (pc := 64) w_1037 dX4_cheapens_64 ?_
      cases h
      exact J_return dX4_cheapens_67 rfl rfl rfl rfl rfl
  · replace h := ifn c4 h
    refine J_iload_n (pc := 10) dX4_cheapens_10 rfl 2 rfl ?_
    refine J_aload_n (pc := 11) dX4_cheapens_11 rfl 0 rfl ?_
    refine get_53_11 (pc := 12) w_1034 dX4_cheapens_12 ?_
    refine J_iload_n (pc := 15) dX4_cheapens_15 rfl 1 rfl ?_
    obtain ⟨v12, e13, hk14, h⟩ := ldi_e h
    refine J_iald (c := 59) (N := 4096) (pc := 16) ja_59 (Nat.le_of_ble_eq_true rfl) hk14 dX4_cheapens_16 ?_
    refine J_topi e13 ?_
    refine J_icmp_ge (pc := 17) (tgt := 67) dX4_cheapens_17 (by decide) (fun c15 => ?_) (fun c15 => ?_)
    · replace h := ifp c15 h
      cases h
      exact J_return dX4_cheapens_67 rfl rfl rfl rfl rfl
    · replace h := ifn c15 h
      refine J_aload_n (pc := 20) dX4_cheapens_20 rfl 0 rfl ?_
      refine get_53_11 (pc := 21) w_1034 dX4_cheapens_21 ?_
      refine J_iload_n (pc := 24) dX4_cheapens_24 rfl 1 rfl ?_
      refine J_iload_n (pc := 25) dX4_cheapens_25 rfl 2 rfl ?_
      obtain ⟨hk16, h⟩ := inb_e h
      refine J_iast (c := 59) (N := 4096) (pc := 26) (fun _ => ja_59) (Nat.le_of_ble_eq_true rfl) hk16 dX4_cheapens_26 ?_
      refine J_aload_n (pc := 27) dX4_cheapens_27 rfl 0 rfl ?_
      refine get_53_13 (pc := 28) w_1036 dX4_cheapens_28 ?_
      refine J_iload_n (pc := 31) dX4_cheapens_31 rfl 1 rfl ?_
      obtain ⟨v17, e18, hk19, h⟩ := ldi_e h
      refine J_zald (pc := 32) hk19 dX4_cheapens_32 ?_
      refine J_topi (e18.trans (congrFun (Eq.symm (show (upI M 59 a1.toNatClampNeg a2).1 61 = M.1 61 from (rI_ne (Nat.ne_of_beq_eq_false rfl) rfl))) _)) ?_
      refine J_if_ne (pc := 33) (tgt := 67) dX4_cheapens_33 (by decide) (fun c20 => ?_) (fun c20 => ?_)
      · replace h := ifn c20 h
        cases h
        exact J_return dX4_cheapens_67 rfl rfl rfl rfl rfl
      · replace h := ifp c20 h
        refine J_aload_n (pc := 36) dX4_cheapens_36 rfl 0 rfl ?_
        refine get_53_13 (pc := 37) w_1036 dX4_cheapens_37 ?_
        refine J_iload_n (pc := 40) dX4_cheapens_40 rfl 1 rfl ?_
        refine J_iconst (v := (1 : Int32)) (pc := 41) dX4_cheapens_41 (by decide) ?_
        obtain ⟨hk21, h⟩ := inb_e h
        refine J_zast (pc := 42) (vp_b (Or.inr rfl)) hk21 dX4_cheapens_42 ?_
        refine J_aload_n (pc := 43) dX4_cheapens_43 rfl 0 rfl ?_
        refine get_53_12 (pc := 44) w_1035 dX4_cheapens_44 ?_
        refine J_aload_n (pc := 47) dX4_cheapens_47 rfl 0 rfl ?_
        refine get_53_14 (pc := 48) w_1037 dX4_cheapens_48 ?_
        refine J_topi (y := (M.1 53 14)) (Eq.symm (show (upI (upI M 59 a1.toNatClampNeg a2) 61 a1.toNatClampNeg (1 : Int32)).1 53 14 = (M.1 53 14) from (eI_ne (Nat.ne_of_beq_eq_false rfl) (eI_ne (Nat.ne_of_beq_eq_false rfl) rfl)))) ?_
        refine J_sipush (v := (4096 : Int32)) (pc := 51) dX4_cheapens_51 (by decide) ?_
        refine J_irem (pc := 54) dX4_cheapens_54 (by decide) ?_
        refine J_iload_n (pc := 55) dX4_cheapens_55 rfl 1 rfl ?_
        obtain ⟨hk22, h⟩ := inb_e h
        refine J_iast (c := 60) (N := 4096) (pc := 56) (fun _ => ja_60) (Nat.le_of_ble_eq_true rfl) hk22 dX4_cheapens_56 ?_
        refine J_aload_n (pc := 57) dX4_cheapens_57 rfl 0 rfl ?_
        refine J_dup (pc := 58) dX4_cheapens_58 rfl ?_
        refine get_53_14 (pc := 59) w_1037 dX4_cheapens_59 ?_
        refine J_topi (y := (M.1 53 14)) (Eq.symm (show (upI (upI (upI M 59 a1.toNatClampNeg a2) 61 a1.toNatClampNeg (1 : Int32)) 60 ((M.1 53 14) - (M.1 53 14) / (4096 : Int32) * (4096 : Int32)).toNatClampNeg a1).1 53 14 = (M.1 53 14) from (eI_ne (Nat.ne_of_beq_eq_false rfl) (eI_ne (Nat.ne_of_beq_eq_false rfl) (eI_ne (Nat.ne_of_beq_eq_false rfl) rfl))))) ?_
        refine J_iconst (v := (1 : Int32)) (pc := 62) dX4_cheapens_62 (by decide) ?_
        refine J_iadd (pc := 63) dX4_cheapens_63 ?_
        refine put_53_14 (pc := 64) w_1037 dX4_cheapens_64 ?_
        cases h
        exact J_return dX4_cheapens_67 rfl rfl rfl rfl rfl
set_option maxHeartbeats 4000000 in
set_option maxRecDepth 100000 in
theorem k_X4_cheaper {E : En} (a1 : Int32) (a2 : Int32) (a3 : Int32) (M : Wd) {M' : Wd} (h : F_X4_cheaper a1 a2 a3 M = some M') : Con E mi_X4_cheaper [.ref 53, .int a1, .int a2, .int a3] M (.inl none) M' := by
  unfold F_X4_cheaper at h
  refine Con.of (by decide) rfl (Nat.le_of_ble_eq_true rfl) (fun κ => ?_)
  show J κ E mi_X4_cheaper _ 0 0 [(0, .ref 53), (1, .int a1), (2, .int a2), (3, .int a3)] M 0 []
  refine J_iload_n (pc := 0) dX4_cheaper_0 rfl 1 rfl ?_
  refine J_iconst (v := (2 : Int32)) (pc := 1) dX4_cheaper_1 (by decide) ?_
  refine J_iload_n (pc := 2) dX4_cheaper_2 rfl 2 rfl ?_
  refine J_imul (pc := 3) dX4_cheaper_3 ?_
  refine J_ishr (pc := 4) dX4_cheaper_4 ?_
  refine J_iconst (v := (3 : Int32)) (pc := 5) dX4_cheaper_5 (by decide) ?_
  refine J_iand (pc := 6) dX4_cheaper_6 ?_
  obtain ⟨v1, e2, h⟩ := bnd_e h
  refine J_topi e2 ?_
  refine J_istore (pc := 7) dX4_cheaper_7 (Nat.le_of_ble_eq_true rfl) [1, 2, 3, 4, 0] rfl ?_
  refine J_aload_n (pc := 9) dX4_cheaper_9 rfl 0 rfl ?_
  refine J_iload_n (pc := 10) dX4_cheaper_10 rfl 1 rfl ?_
  obtain ⟨v3, hc4, h⟩ := obind_e h
  refine J_callV (g := mi_X4_setOf) (ci := 4) (pc := 11) [.int a1] [] mv_X4_setOf w_1250 (k_X4_setOf a1 _ hc4) rfl (by decide) rfl rfl rfl ⟨⟨Nat.le_of_ble_eq_true rfl, Nat.le_of_ble_eq_true rfl⟩, Nat.le_of_ble_eq_true rfl, Nat.le_of_ble_eq_true rfl⟩ (Nat.le_of_ble_eq_true rfl) dX4_cheaper_11 (Jk_v rfl rfl fun hok5 => ?_)
  refine J_aload_n (pc := 14) dX4_cheaper_14 rfl 0 rfl ?_
  refine get_53_8 (pc := 15) w_1031 dX4_cheaper_15 ?_
  refine J_iconst (v := (4 : Int32)) (pc := 18) dX4_cheaper_18 (by decide) ?_
  refine J_iload_n (pc := 19) dX4_cheaper_19 rfl 2 rfl ?_
  refine J_imul (pc := 20) dX4_cheaper_20 ?_
  refine J_iload (pc := 21) dX4_cheaper_21 4 rfl ?_
  refine J_iadd (pc := 23) dX4_cheaper_23 ?_
  obtain ⟨v6, e7, hk8, h⟩ := ldi_e h
  refine J_iald (c := 58) (N := 24) (pc := 24) ja_58 (Nat.le_of_ble_eq_true rfl) hk8 dX4_cheaper_24 ?_
  refine J_topi e7 ?_
  refine J_iconst (v := (-1 : Int32)) (pc := 25) dX4_cheaper_25 (by decide) ?_
  refine J_ixor (pc := 26) dX4_cheaper_26 ?_
  refine J_iand (pc := 27) dX4_cheaper_27 ?_
  obtain ⟨v9, e10, h⟩ := bnd_e h
  refine J_topi e10 ?_
  refine J_istore (pc := 28) dX4_cheaper_28 (Nat.le_of_ble_eq_true rfl) [1, 2, 3, 4, 5, 0] rfl ?_
  refine J_LS [(0, .ref 53), (1, .int a1), (2, .int a2), (3, .int a3), (4, .int v1), (5, .int v9)] [] rfl rfl ?_
  refine J_iload (pc := 30) dX4_cheaper_30 4 rfl ?_
  refine J_iload_n (pc := 32) dX4_cheaper_32 rfl 3 rfl ?_
  refine J_iadd (pc := 33) dX4_cheaper_33 ?_
  obtain ⟨v11, e12, h⟩ := bnd_e h
  refine J_topi e12 ?_
  refine J_istore (pc := 34) dX4_cheaper_34 (Nat.le_of_ble_eq_true rfl) [1, 2, 3, 4, 5, 6, 0] rfl ?_
  refine J_iload (pc := 36) dX4_cheaper_36 6 rfl ?_
  refine J_i2l (pc := 38) dX4_cheaper_38 ?_
  refine J_lconst (v := (0 : Int64)) (pc := 39) dX4_cheaper_39 (by decide) ?_
  refine J_ldc2 (pc := 40) w_1108 dX4_cheaper_40 ?_
  refine J_callS (g := mi_X4_in) (pc := 43) [.long v11.toInt64, .long (0 : Int64), .long (3 : Int64)] [] ms_X4_in w_1104 (k_X4_in v11.toInt64 (0 : Int64) (3 : Int64) _) rfl rfl ⟨⟨Nat.le_of_ble_eq_true rfl, Nat.le_of_ble_eq_true rfl⟩, Nat.le_of_ble_eq_true rfl, Nat.le_of_ble_eq_true rfl⟩ (Nat.le_of_ble_eq_true rfl) dX4_cheaper_43 (Jk_v rfl rfl fun hok13 => ?_)
  refine J_if_eq (pc := 46) (tgt := 116) dX4_cheaper_46 (by decide) (fun c14 => ?_) (fun c14 => ?_)
  · replace h := ifp c14 h
    cases h
    exact J_return dX4_cheaper_116 rfl rfl rfl rfl rfl
  · replace h := ifn c14 h
    refine J_aload_n (pc := 49) dX4_cheaper_49 rfl 0 rfl ?_
    refine get_53_8 (pc := 50) w_1031 dX4_cheaper_50 ?_
    refine J_iconst (v := (4 : Int32)) (pc := 53) dX4_cheaper_53 (by decide) ?_
    refine J_iload_n (pc := 54) dX4_cheaper_54 rfl 2 rfl ?_
    refine J_imul (pc := 55) dX4_cheaper_55 ?_
    refine J_iload (pc := 56) dX4_cheaper_56 6 rfl ?_
    refine J_iadd (pc := 58) dX4_cheaper_58 ?_
    obtain ⟨v15, e16, hk17, h⟩ := ldi_e h
    refine J_iald (c := 58) (N := 24) (pc := 59) ja_58 (Nat.le_of_ble_eq_true rfl) hk17 dX4_cheaper_59 ?_
    refine J_topi e16 ?_
    refine J_if_eq (pc := 60) (tgt := 116) dX4_cheaper_60 (by decide) (fun c18 => ?_) (fun c18 => ?_)
    · replace h := ifp c18 h
      cases h
      exact J_return dX4_cheaper_116 rfl rfl rfl rfl rfl
    · replace h := ifn c18 h
      refine J_aload_n (pc := 63) dX4_cheaper_63 rfl 0 rfl ?_
      refine get_53_8 (pc := 64) w_1031 dX4_cheaper_64 ?_
      refine J_iconst (v := (4 : Int32)) (pc := 67) dX4_cheaper_67 (by decide) ?_
      refine J_iload_n (pc := 68) dX4_cheaper_68 rfl 2 rfl ?_
      refine J_imul (pc := 69) dX4_cheaper_69 ?_
      refine J_iload (pc := 70) dX4_cheaper_70 6 rfl ?_
      refine J_iadd (pc := 72) dX4_cheaper_72 ?_
      obtain ⟨v19, e20, hk21, h⟩ := ldi_e h
      refine J_iald (c := 58) (N := 24) (pc := 73) ja_58 (Nat.le_of_ble_eq_true rfl) hk21 dX4_cheaper_73 ?_
      refine J_topi e20 ?_
      refine J_iload (pc := 74) dX4_cheaper_74 5 rfl ?_
      refine J_iand (pc := 76) dX4_cheaper_76 ?_
      refine J_if_ne (pc := 77) (tgt := 116) dX4_cheaper_77 (by decide) (fun c22 => ?_) (fun c22 => ?_)
      · replace h := ifn c22 h
        cases h
        exact J_return dX4_cheaper_116 rfl rfl rfl rfl rfl
      · replace h := ifp c22 h
        refine J_aload_n (pc := 80) dX4_cheaper_80 rfl 0 rfl ?_
        refine J_iload_n (pc := 81) dX4_cheaper_81 rfl 1 rfl ?_
        refine J_iconst (v := (3 : Int32)) (pc := 82) dX4_cheaper_82 (by decide) ?_
        refine J_iconst (v := (2 : Int32)) (pc := 83) dX4_cheaper_83 (by decide) ?_
        refine J_iload_n (pc := 84) dX4_cheaper_84 rfl 2 rfl ?_
        refine J_imul (pc := 85) dX4_cheaper_85 ?_
        refine J_ishl (pc := 86) dX4_cheaper_86 ?_
        refine J_iconst (v := (-1 : Int32)) (pc := 87) dX4_cheaper_87 (by decide) ?_
        refine J_ixor (pc := 88) dX4_cheaper_88 ?_
        refine J_iand (pc := 89) dX4_cheaper_89 ?_
        refine J_iload (pc := 90) dX4_cheaper_90 6 rfl ?_
        refine J_iconst (v := (2 : Int32)) (pc := 92) dX4_cheaper_92 (by decide) ?_
        refine J_iload_n (pc := 93) dX4_cheaper_93 rfl 2 rfl ?_
        refine J_imul (pc := 94) dX4_cheaper_94 ?_
        refine J_ishl (pc := 95) dX4_cheaper_95 ?_
        refine J_ior (pc := 96) dX4_cheaper_96 ?_
        refine J_aload_n (pc := 97) dX4_cheaper_97 rfl 0 rfl ?_
        refine get_53_11 (pc := 98) w_1034 dX4_cheaper_98 ?_
        refine J_iload_n (pc := 101) dX4_cheaper_101 rfl 1 rfl ?_
        obtain ⟨v23, e24, hk25, h⟩ := ldi_e h
        refine J_iald (c := 59) (N := 4096) (pc := 102) ja_59 (Nat.le_of_ble_eq_true rfl) hk25 dX4_cheaper_102 ?_
        refine J_topi e24 ?_
        refine J_aload_n (pc := 103) dX4_cheaper_103 rfl 0 rfl ?_
        refine get_53_3 (pc := 104) w_1026 dX4_cheaper_104 ?_
        refine J_bipush (v := (13 : Int32)) (pc := 107) dX4_cheaper_107 (by decide) ?_
        refine J_iload_n (pc := 109) dX4_cheaper_109 rfl 2 rfl ?_
        refine J_iadd (pc := 110) dX4_cheaper_110 ?_
        obtain ⟨v26, e27, hk28, h⟩ := ldi_e h
        refine J_iald (c := 55) (N := 82) (pc := 111) ja_55 (Nat.le_of_ble_eq_true rfl) hk28 dX4_cheaper_111 ?_
        refine J_topi e27 ?_
        refine J_iadd (pc := 112) dX4_cheaper_112 ?_
        obtain ⟨M29, hc30, h⟩ := obind_e h
        refine J_callV (g := mi_X4_cheapens) (ci := 4) (pc := 113) [.int ((a1 &&& (((3 : Int32) <<< (((2 : Int32) * a2) &&& 31)) ^^^ (-1 : Int32))) ||| (v11 <<< (((2 : Int32) * a2) &&& 31))), .int (v23 + v26)] [] mv_X4_cheapens w_1481 (k_X4_cheapens ((a1 &&& (((3 : Int32) <<< (((2 : Int32) * a2) &&& 31)) ^^^ (-1 : Int32))) ||| (v11 <<< (((2 : Int32) * a2) &&& 31))) (v23 + v26) _ hc30) rfl (by decide) rfl rfl rfl ⟨⟨Nat.le_of_ble_eq_true rfl, Nat.le_of_ble_eq_true rfl⟩, Nat.le_of_ble_eq_true rfl, Nat.le_of_ble_eq_true rfl⟩ (Nat.le_of_ble_eq_true rfl) dX4_cheaper_113 (Jk_0 rfl rfl ?_)
        cases h
        exact J_return dX4_cheaper_116 rfl rfl rfl rfl rfl

/-! ===== walks of the methods, 3 ===== -/
set_option maxHeartbeats 4000000 in
set_option maxRecDepth 100000 in
theorem kL_X0_fuelByBuckets_L6 {κ : Kx} {E : En} {Q : State → Prop} {ρ : Type} {r : ρ} (K24 : Wd → Option ρ) (hK24 : ∀ (M : Wd), K24 M = some r → J κ E mi_X0_fuelByBuckets Q 0 0 [(0, .ref 44)] M 24 []) : ∀ (m : Nat) (x1 : Int32) (M : Wd), F_X0_fuelByBuckets_L6 K24 m x1 M = some r → J κ E mi_X0_fuelByBuckets Q 0 0 [(0, .ref 44), (1, .int x1)] M 6 [] := by
  intro m
  induction m with
  | zero => intro x1 M h; exact (nomatch (show (none : Option ρ) = some r from h))
  | succ m ih =>
    intro x1 M h
    unfold F_X0_fuelByBuckets_L6 at h
    refine J_iload_n (pc := 6) dX0_fuelByBuckets_6 rfl 1 rfl ?_
    refine J_iconst (v := (4 : Int32)) (pc := 7) dX0_fuelByBuckets_7 (by decide) ?_
    refine J_icmp_ge (pc := 8) (tgt := 24) dX0_fuelByBuckets_8 (by decide) (fun c3 => ?_) (fun c3 => ?_)
    · replace h := ifp c3 h
      refine J_sub [0] rfl ?_
      exact hK24 _ h
    · replace h := ifn c3 h
      refine J_aload_n (pc := 11) dX0_fuelByBuckets_11 rfl 0 rfl ?_
      refine get_44_5 (pc := 12) w_104 dX0_fuelByBuckets_12 ?_
      refine J_iload_n (pc := 15) dX0_fuelByBuckets_15 rfl 1 rfl ?_
      refine J_iconst (v := (0 : Int32)) (pc := 16) dX0_fuelByBuckets_16 (by decide) ?_
      obtain ⟨hk4, h⟩ := inb_e h
      refine J_iast (c := 50) (N := 4) (pc := 17) (fun _ => ja_50) (Nat.le_of_ble_eq_true rfl) hk4 dX0_fuelByBuckets_17 ?_
      obtain ⟨v5, e6, h⟩ := bnd_e h
      refine J_iinc (v := v5) (pc := 18) dX0_fuelByBuckets_18 1 rfl (by rw [e6]; rfl) (Nat.le_of_ble_eq_true rfl) [1, 0] rfl ?_
      refine J_goto (pc := 21) (tgt := 6) dX0_fuelByBuckets_21 (by decide) ?_
      exact ih _ _ h
set_option maxHeartbeats 4000000 in
set_option maxRecDepth 100000 in
theorem kL_X0_fuelByBuckets_L35 {κ : Kx} {E : En} {Q : State → Prop} {ρ : Type} {r : ρ} (K57 : Int32 → Wd → Option ρ) (K70 : Wd → Option ρ) (hK57 : ∀ (x1 : Int32) (M : Wd), K57 x1 M = some r → J κ E mi_X0_fuelByBuckets Q 0 0 [(1, .int x1)] M 57 []) (hK70 : ∀ (M : Wd), K70 M = some r → J κ E mi_X0_fuelByBuckets Q 0 0 [] M 70 []) : ∀ (m : Nat) (x1 : Int32) (M : Wd), F_X0_fuelByBuckets_L35 K57 K70 m x1 M = some r → J κ E mi_X0_fuelByBuckets Q 0 0 [(0, .ref 44), (1, .int x1)] M 35 [] := by
  intro m
  induction m with
  | zero => intro x1 M h; exact (nomatch (show (none : Option ρ) = some r from h))
  | succ m ih =>
    intro x1 M h
    unfold F_X0_fuelByBuckets_L35 at h
    refine J_iload_n (pc := 35) dX0_fuelByBuckets_35 rfl 1 rfl ?_
    refine J_sipush (v := (12288 : Int32)) (pc := 36) dX0_fuelByBuckets_36 (by decide) ?_
    refine J_icmp_gt (pc := 39) (tgt := 70) dX0_fuelByBuckets_39 (by decide) (fun c10 => ?_) (fun c10 => ?_)
    · replace h := ifp c10 h
      refine J_sub [] rfl ?_
      exact hK70 _ h
    · replace h := ifn c10 h
      refine J_aload_n (pc := 42) dX0_fuelByBuckets_42 rfl 0 rfl ?_
      refine J_callV (g := mi_X0_isAnyFilled) (ci := 0) (pc := 43) [] [] mv_X0_isAnyFilled w_340 (k_X0_isAnyFilled  _) rfl (by decide) rfl rfl rfl ⟨⟨Nat.le_of_ble_eq_true rfl, Nat.le_of_ble_eq_true rfl⟩, Nat.le_of_ble_eq_true rfl, Nat.le_of_ble_eq_true rfl⟩ (Nat.le_of_ble_eq_true rfl) dX0_fuelByBuckets_43 (Jk_v rfl rfl fun hok11 => ?_)
      refine J_if_eq (pc := 46) (tgt := 70) dX0_fuelByBuckets_46 (by decide) (fun c12 => ?_) (fun c12 => ?_)
      · replace h := ifp c12 h
        refine J_sub [] rfl ?_
        exact hK70 _ h
      · replace h := ifn c12 h
        refine J_aload_n (pc := 49) dX0_fuelByBuckets_49 rfl 0 rfl ?_
        refine J_iload_n (pc := 50) dX0_fuelByBuckets_50 rfl 1 rfl ?_
        obtain ⟨v13, hc14, h⟩ := obind_e h
        refine J_callV (g := mi_X0_hasOutFor) (ci := 0) (pc := 51) [.int x1] [] mv_X0_hasOutFor w_344 (k_X0_hasOutFor  x1 _ hc14) rfl (by decide) rfl rfl rfl ⟨⟨Nat.le_of_ble_eq_true rfl, Nat.le_of_ble_eq_true rfl⟩, Nat.le_of_ble_eq_true rfl, Nat.le_of_ble_eq_true rfl⟩ (Nat.le_of_ble_eq_true rfl) dX0_fuelByBuckets_51 (Jk_v rfl rfl fun hok15 => ?_)
        refine J_if_eq (pc := 54) (tgt := 59) dX0_fuelByBuckets_54 (by decide) (fun c16 => ?_) (fun c16 => ?_)
        · replace h := ifp c16 h
          refine J_aload_n (pc := 59) dX0_fuelByBuckets_59 rfl 0 rfl ?_
          refine J_iload_n (pc := 60) dX0_fuelByBuckets_60 rfl 1 rfl ?_
          obtain ⟨M17, hc18, h⟩ := obind_e h
          refine J_callV (g := mi_X0_emptyBucket) (ci := 0) (pc := 61) [.int x1] [] mv_X0_emptyBucket w_352 (k_X0_emptyBucket x1 _ hc18) rfl (by decide) rfl rfl rfl ⟨⟨Nat.le_of_ble_eq_true rfl, Nat.le_of_ble_eq_true rfl⟩, Nat.le_of_ble_eq_true rfl, Nat.le_of_ble_eq_true rfl⟩ (Nat.le_of_ble_eq_true rfl) dX0_fuelByBuckets_61 (Jk_0 rfl rfl ?_)
          obtain ⟨v19, e20, h⟩ := bnd_e h
          refine J_iinc (v := v19) (pc := 64) dX0_fuelByBuckets_64 1 rfl (by rw [e20]; rfl) (Nat.le_of_ble_eq_true rfl) [1, 0] rfl ?_
          refine J_goto (pc := 67) (tgt := 35) dX0_fuelByBuckets_67 (by decide) ?_
          exact ih _ _ h
        · replace h := ifn c16 h
          refine J_sub [1] rfl ?_
          exact hK57 _ _ h
set_option maxHeartbeats 4000000 in
set_option maxRecDepth 100000 in
theorem k_X0_fuelByBuckets {E : En} (M : Wd) {r : Int32} {M' : Wd} (h : F_X0_fuelByBuckets M = some (r, M')) : Con E mi_X0_fuelByBuckets [.ref 44] M (.inl (some (.int r))) M' := by
  unfold F_X0_fuelByBuckets at h
  refine Con.of (by decide) rfl (Nat.le_of_ble_eq_true rfl) (fun κ => ?_)
  show J κ E mi_X0_fuelByBuckets _ 0 0 [(0, .ref 44)] M 0 []
  refine J_aload_n (pc := 0) dX0_fuelByBuckets_0 rfl 0 rfl ?_
  obtain ⟨M1, hc2, h⟩ := obind_e h
  refine J_callV (g := mi_X0_forget) (ci := 0) (pc := 1) [] [] mv_X0_forget w_284 (k_X0_forget _ hc2) rfl (by decide) rfl rfl rfl ⟨⟨Nat.le_of_ble_eq_true rfl, Nat.le_of_ble_eq_true rfl⟩, Nat.le_of_ble_eq_true rfl, Nat.le_of_ble_eq_true rfl⟩ (Nat.le_of_ble_eq_true rfl) dX0_fuelByBuckets_1 (Jk_0 rfl rfl ?_)
  refine J_iconst (v := (0 : Int32)) (pc := 4) dX0_fuelByBuckets_4 (by decide) ?_
  refine J_istore_n (pc := 5) dX0_fuelByBuckets_5 rfl (Nat.le_of_ble_eq_true rfl) [1, 0] rfl ?_
  refine kL_X0_fuelByBuckets_L6 _ (fun M7 h => ?_) fuelN _ _ h
  refine J_aload_n (pc := 24) dX0_fuelByBuckets_24 rfl 0 rfl ?_
  refine J_aload_n (pc := 25) dX0_fuelByBuckets_25 rfl 0 rfl ?_
  refine get_44_8 (pc := 26) w_107 dX0_fuelByBuckets_26 ?_
  refine J_iconst (v := (0 : Int32)) (pc := 29) dX0_fuelByBuckets_29 (by decide) ?_
  obtain ⟨M8, hc9, h⟩ := obind_e h
  refine J_callV (g := mi_X0_cheapen) (ci := 0) (pc := 30) [.int (M7.1 44 8), .int (0 : Int32)] [] mv_X0_cheapen w_332 (k_X0_cheapen (M7.1 44 8) (0 : Int32) _ hc9) rfl (by decide) rfl rfl rfl ⟨⟨Nat.le_of_ble_eq_true rfl, Nat.le_of_ble_eq_true rfl⟩, Nat.le_of_ble_eq_true rfl, Nat.le_of_ble_eq_true rfl⟩ (Nat.le_of_ble_eq_true rfl) dX0_fuelByBuckets_30 (Jk_0 rfl rfl ?_)
  refine J_iconst (v := (0 : Int32)) (pc := 33) dX0_fuelByBuckets_33 (by decide) ?_
  refine J_istore_n (pc := 34) dX0_fuelByBuckets_34 rfl (Nat.le_of_ble_eq_true rfl) [1, 0] rfl ?_
  refine J_LS [(0, .ref 44), (1, .int (0 : Int32))] [] rfl rfl ?_
  refine kL_X0_fuelByBuckets_L35 _ _ (fun v21 M22 h => ?_) (fun M23 h => ?_) fuelN _ _ h
  · refine J_iload_n (pc := 57) dX0_fuelByBuckets_57 rfl 0 rfl ?_
    cases h
    exact J_ireturn dX0_fuelByBuckets_58 rfl rfl rfl rfl rfl
  · refine J_iconst (v := (-1 : Int32)) (pc := 70) dX0_fuelByBuckets_70 (by decide) ?_
    cases h
    exact J_ireturn dX0_fuelByBuckets_71 rfl rfl rfl rfl rfl
set_option maxHeartbeats 4000000 in
set_option maxRecDepth 100000 in
theorem kL_X0_hasCheapenedAround_L35 {κ : Kx} {E : En} {Q : State → Prop} {ρ : Type} {r : ρ} (a1 : Int32) (a3 : Int32) (a4 : Int32) (K79 : Int32 → Wd → Option ρ) (hK79 : ∀ (x2 : Int32) (M : Wd), K79 x2 M = some r → J κ E mi_X0_hasCheapenedAround Q 0 0 [(0, .ref 44), (1, .int a1), (2, .int x2), (3, .int a3)] M 79 []) : ∀ (m : Nat) (x2 : Int32) (x5 : Int32) (M : Wd), F_X0_hasCheapenedAround_L35 a1 a3 a4 K79 m x2 x5 M = some r → J κ E mi_X0_hasCheapenedAround Q 0 0 [(0, .ref 44), (1, .int a1), (2, .int x2), (3, .int a3), (4, .int a4), (5, .int x5)] M 35 [] := by
  intro m
  induction m with
  | zero => intro x2 x5 M h; exact (nomatch (show (none : Option ρ) = some r from h))
  | succ m ih =>
    intro x2 x5 M h
    unfold F_X0_hasCheapenedAround_L35 at h
    refine J_iload (pc := 35) dX0_hasCheapenedAround_35 5 rfl ?_
    refine J_iconst (v := (1 : Int32)) (pc := 37) dX0_hasCheapenedAround_37 (by decide) ?_
    refine J_icmp_gt (pc := 38) (tgt := 79) dX0_hasCheapenedAround_38 (by decide) (fun c11 => ?_) (fun c11 => ?_)
    · replace h := ifp c11 h
      refine J_sub [0, 1, 2, 3] rfl ?_
      exact hK79 _ _ h
    · replace h := ifn c11 h
      refine J_aload_n (pc := 41) dX0_hasCheapenedAround_41 rfl 0 rfl ?_
      refine J_iload_n (pc := 42) dX0_hasCheapenedAround_42 rfl 1 rfl ?_
      refine J_iload_n (pc := 43) dX0_hasCheapenedAround_43 rfl 3 rfl ?_
      refine J_iload (pc := 44) dX0_hasCheapenedAround_44 5 rfl ?_
      obtain ⟨v12, hc13, h⟩ := obind_e h
      refine J_callV (g := mi_X0_behindStep) (ci := 0) (pc := 46) [.int a1, .int a3, .int x5] [] mv_X0_behindStep w_308 (k_X0_behindStep  a1 a3 x5 _ hc13) rfl (by decide) rfl rfl rfl ⟨⟨Nat.le_of_ble_eq_true rfl, Nat.le_of_ble_eq_true rfl⟩, Nat.le_of_ble_eq_true rfl, Nat.le_of_ble_eq_true rfl⟩ (Nat.le_of_ble_eq_true rfl) dX0_hasCheapenedAround_46 (Jk_v rfl rfl fun hok14 => ?_)
      refine J_istore (pc := 49) dX0_hasCheapenedAround_49 (Nat.le_of_ble_eq_true rfl) [1, 2, 3, 4, 5, 6, 0] rfl ?_
      refine J_aload_n (pc := 51) dX0_hasCheapenedAround_51 rfl 0 rfl ?_
      refine J_iload (pc := 52) dX0_hasCheapenedAround_52 6 rfl ?_
      refine J_iload (pc := 54) dX0_hasCheapenedAround_54 4 rfl ?_
      obtain ⟨v15, hc16, h⟩ := obind_e h
      refine J_callV (g := mi_X0_isCheaper) (ci := 0) (pc := 56) [.int v12, .int a4] [] mv_X0_isCheaper w_336 (k_X0_isCheaper  v12 a4 _ hc16) rfl (by decide) rfl rfl rfl ⟨⟨Nat.le_of_ble_eq_true rfl, Nat.le_of_ble_eq_true rfl⟩, Nat.le_of_ble_eq_true rfl, Nat.le_of_ble_eq_true rfl⟩ (Nat.le_of_ble_eq_true rfl) dX0_hasCheapenedAround_56 (Jk_v rfl rfl fun hok17 => ?_)
      obtain ⟨v18, M19, hv22, h⟩ := obind2_e h
      refine J_join [(0, .ref 44), (1, .int a1), (2, .int v18), (3, .int a3), (4, .int a4), (5, .int x5)] M19 73 [] ?_ (fun hJ => ?_)
      · obtain ⟨v23, e24, h⟩ := bnd_e h
        refine J_iinc (v := v23) (pc := 73) dX0_hasCheapenedAround_73 5 rfl (by rw [e24]; rfl) (Nat.le_of_ble_eq_true rfl) [1, 2, 3, 4, 5, 0] rfl ?_
        refine J_goto (pc := 76) (tgt := 35) dX0_hasCheapenedAround_76 (by decide) ?_
        exact ih _ _ _ h
      · replace h := hv22
        refine J_if_eq (pc := 59) (tgt := 73) dX0_hasCheapenedAround_59 (by decide) (fun c20 => ?_) (fun c20 => ?_)
        · replace h := ifp c20 h
          cases h
          refine J_sub [0, 1, 2, 3, 4, 5] rfl ?_
          exact hJ
        · replace h := ifn c20 h
          refine J_aload_n (pc := 62) dX0_hasCheapenedAround_62 rfl 0 rfl ?_
          refine get_44_2 (pc := 63) w_101 dX0_hasCheapenedAround_63 ?_
          refine J_iload (pc := 66) dX0_hasCheapenedAround_66 6 rfl ?_
          refine J_iload (pc := 68) dX0_hasCheapenedAround_68 4 rfl ?_
          obtain ⟨hk21, h⟩ := inb_e h
          refine J_iast (c := 47) (N := 4096) (pc := 70) (fun _ => ja_47) (Nat.le_of_ble_eq_true rfl) hk21 dX0_hasCheapenedAround_70 ?_
          refine J_iconst (v := (1 : Int32)) (pc := 71) dX0_hasCheapenedAround_71 (by decide) ?_
          refine J_istore_n (pc := 72) dX0_hasCheapenedAround_72 rfl (Nat.le_of_ble_eq_true rfl) [1, 2, 0, 3, 4, 5, 6] rfl ?_
          refine J_LS [(0, .ref 44), (1, .int a1), (2, .int (1 : Int32)), (3, .int a3), (4, .int a4), (5, .int x5), (6, .int v12)] [] rfl rfl ?_
          cases h
          refine J_sub [0, 1, 2, 3, 4, 5] rfl ?_
          exact hJ
set_option maxHeartbeats 4000000 in
set_option maxRecDepth 100000 in
theorem kL_X0_hasCheapenedAround_L4 {κ : Kx} {E : En} {Q : State → Prop} {ρ : Type} {r : ρ} (a1 : Int32) (K85 : Int32 → Wd → Option ρ) (hK85 : ∀ (x2 : Int32) (M : Wd), K85 x2 M = some r → J κ E mi_X0_hasCheapenedAround Q 0 0 [(2, .int x2)] M 85 []) : ∀ (m : Nat) (x2 : Int32) (x3 : Int32) (M : Wd), F_X0_hasCheapenedAround_L4 a1 K85 m x2 x3 M = some r → J κ E mi_X0_hasCheapenedAround Q 0 0 [(0, .ref 44), (1, .int a1), (2, .int x2), (3, .int x3)] M 4 [] := by
  intro m
  induction m with
  | zero => intro x2 x3 M h; exact (nomatch (show (none : Option ρ) = some r from h))
  | succ m ih =>
    intro x2 x3 M h
    unfold F_X0_hasCheapenedAround_L4 at h
    refine J_iload_n (pc := 4) dX0_hasCheapenedAround_4 rfl 3 rfl ?_
    refine J_aload_n (pc := 5) dX0_hasCheapenedAround_5 rfl 0 rfl ?_
    refine get_44_6 (pc := 6) w_105 dX0_hasCheapenedAround_6 ?_
    refine J_icmp_ge (pc := 9) (tgt := 85) dX0_hasCheapenedAround_9 (by decide) (fun c1 => ?_) (fun c1 => ?_)
    · replace h := ifp c1 h
      refine J_sub [2] rfl ?_
      exact hK85 _ _ h
    · replace h := ifn c1 h
      refine J_iload_n (pc := 12) dX0_hasCheapenedAround_12 rfl 3 rfl ?_
      refine J_bipush (v := (6 : Int32)) (pc := 13) dX0_hasCheapenedAround_13 (by decide) ?_
      refine J_icmp_ge (pc := 15) (tgt := 85) dX0_hasCheapenedAround_15 (by decide) (fun c2 => ?_) (fun c2 => ?_)
      · replace h := ifp c2 h
        refine J_sub [2] rfl ?_
        exact hK85 _ _ h
      · replace h := ifn c2 h
        refine J_aload_n (pc := 18) dX0_hasCheapenedAround_18 rfl 0 rfl ?_
        refine J_iload_n (pc := 19) dX0_hasCheapenedAround_19 rfl 1 rfl ?_
        obtain ⟨v3, hc4, h⟩ := obind_e h
        refine J_callV (g := mi_X0_costOf) (ci := 0) (pc := 20) [.int a1] [] mv_X0_costOf w_296 (k_X0_costOf  a1 _ hc4) rfl (by decide) rfl rfl rfl ⟨⟨Nat.le_of_ble_eq_true rfl, Nat.le_of_ble_eq_true rfl⟩, Nat.le_of_ble_eq_true rfl, Nat.le_of_ble_eq_true rfl⟩ (Nat.le_of_ble_eq_true rfl) dX0_hasCheapenedAround_20 (Jk_v rfl rfl fun hok5 => ?_)
        refine J_aload_n (pc := 23) dX0_hasCheapenedAround_23 rfl 0 rfl ?_
        refine get_44_0 (pc := 24) w_99 dX0_hasCheapenedAround_24 ?_
        refine J_iload_n (pc := 27) dX0_hasCheapenedAround_27 rfl 3 rfl ?_
        obtain ⟨v6, e7, hk8, h⟩ := ldi_e h
        refine J_iald (c := 45) (N := 6) (pc := 28) ja_45 (Nat.le_of_ble_eq_true rfl) hk8 dX0_hasCheapenedAround_28 ?_
        refine J_topi e7 ?_
        refine J_iadd (pc := 29) dX0_hasCheapenedAround_29 ?_
        obtain ⟨v9, e10, h⟩ := bnd_e h
        refine J_topi e10 ?_
        refine J_istore (pc := 30) dX0_hasCheapenedAround_30 (Nat.le_of_ble_eq_true rfl) [1, 2, 3, 4, 0] rfl ?_
        refine J_iconst (v := (-1 : Int32)) (pc := 32) dX0_hasCheapenedAround_32 (by decide) ?_
        refine J_istore (pc := 33) dX0_hasCheapenedAround_33 (Nat.le_of_ble_eq_true rfl) [1, 2, 3, 4, 5, 0] rfl ?_
        refine J_LS [(0, .ref 44), (1, .int a1), (2, .int x2), (3, .int x3), (4, .int v9), (5, .int (-1 : Int32))] [] rfl rfl ?_
        refine kL_X0_hasCheapenedAround_L35 _ _ _ _ (fun v25 M26 h => ?_) fuelN _ _ _ h
        obtain ⟨v27, e28, h⟩ := bnd_e h
        refine J_iinc (v := v27) (pc := 79) dX0_hasCheapenedAround_79 3 rfl (by rw [e28]; rfl) (Nat.le_of_ble_eq_true rfl) [1, 2, 3, 0] rfl ?_
        refine J_goto (pc := 82) (tgt := 4) dX0_hasCheapenedAround_82 (by decide) ?_
        exact ih _ _ _ h
set_option maxHeartbeats 4000000 in
set_option maxRecDepth 100000 in
theorem k_X0_hasCheapenedAround {E : En} (a1 : Int32) (M : Wd) {r : Int32} {M' : Wd} (h : F_X0_hasCheapenedAround a1 M = some (r, M')) : Con E mi_X0_hasCheapenedAround [.ref 44, .int a1] M (.inl (some (.int r))) M' := by
  unfold F_X0_hasCheapenedAround at h
  refine Con.of (by decide) rfl (Nat.le_of_ble_eq_true rfl) (fun κ => ?_)
  show J κ E mi_X0_hasCheapenedAround _ 0 0 [(0, .ref 44), (1, .int a1)] M 0 []
  refine J_iconst (v := (0 : Int32)) (pc := 0) dX0_hasCheapenedAround_0 (by decide) ?_
  refine J_istore_n (pc := 1) dX0_hasCheapenedAround_1 rfl (Nat.le_of_ble_eq_true rfl) [1, 2, 0] rfl ?_
  refine J_iconst (v := (0 : Int32)) (pc := 2) dX0_hasCheapenedAround_2 (by decide) ?_
  refine J_istore_n (pc := 3) dX0_hasCheapenedAround_3 rfl (Nat.le_of_ble_eq_true rfl) [1, 2, 3, 0] rfl ?_
  refine J_LS [(0, .ref 44), (1, .int a1), (2, .int (0 : Int32)), (3, .int (0 : Int32))] [] rfl rfl ?_
  refine kL_X0_hasCheapenedAround_L4 _ _ (fun v29 M30 h => ?_) fuelN _ _ _ h
  refine J_iload_n (pc := 85) dX0_hasCheapenedAround_85 rfl 0 rfl ?_
  obtain ⟨hb31, h⟩ := chB_e h
  cases h
  exact J_zreturn dX0_hasCheapenedAround_86 rfl hb31 rfl rfl rfl rfl
set_option maxHeartbeats 4000000 in
set_option maxRecDepth 100000 in
theorem kL_X0_fuelByRounds_L32 {κ : Kx} {E : En} {Q : State → Prop} {ρ : Type} {r : ρ} (a2 : Int32) (K65 : Int32 → Wd → Option ρ) (hK65 : ∀ (x1 : Int32) (M : Wd), K65 x1 M = some r → J κ E mi_X0_fuelByRounds Q 0 0 [(0, .ref 44), (1, .int x1), (2, .int a2)] M 65 []) : ∀ (m : Nat) (x1 : Int32) (x3 : Int32) (M : Wd), F_X0_fuelByRounds_L32 a2 K65 m x1 x3 M = some r → J κ E mi_X0_fuelByRounds Q 0 0 [(0, .ref 44), (1, .int x1), (2, .int a2), (3, .int x3)] M 32 [] := by
  intro m
  induction m with
  | zero => intro x1 x3 M h; exact (nomatch (show (none : Option ρ) = some r from h))
  | succ m ih =>
    intro x1 x3 M h
    unfold F_X0_fuelByRounds_L32 at h
    refine J_iload_n (pc := 32) dX0_fuelByRounds_32 rfl 3 rfl ?_
    refine J_aload_n (pc := 33) dX0_fuelByRounds_33 rfl 0 rfl ?_
    refine get_44_7 (pc := 34) w_106 dX0_fuelByRounds_34 ?_
    refine J_icmp_ge (pc := 37) (tgt := 65) dX0_fuelByRounds_37 (by decide) (fun c7 => ?_) (fun c7 => ?_)
    · replace h := ifp c7 h
      refine J_sub [0, 1, 2] rfl ?_
      exact hK65 _ _ h
    · replace h := ifn c7 h
      refine J_aload_n (pc := 40) dX0_fuelByRounds_40 rfl 0 rfl ?_
      refine J_iload_n (pc := 41) dX0_fuelByRounds_41 rfl 3 rfl ?_
      obtain ⟨v8, hc9, h⟩ := obind_e h
      refine J_callV (g := mi_X0_costOf) (ci := 0) (pc := 42) [.int x3] [] mv_X0_costOf w_296 (k_X0_costOf  x3 _ hc9) rfl (by decide) rfl rfl rfl ⟨⟨Nat.le_of_ble_eq_true rfl, Nat.le_of_ble_eq_true rfl⟩, Nat.le_of_ble_eq_true rfl, Nat.le_of_ble_eq_true rfl⟩ (Nat.le_of_ble_eq_true rfl) dX0_fuelByRounds_42 (Jk_v rfl rfl fun hok10 => ?_)
      refine J_iconst (v := (-1 : Int32)) (pc := 45) dX0_fuelByRounds_45 (by decide) ?_
      obtain ⟨v11, M12, hv19, h⟩ := obind2_e h
      refine J_join [(0, .ref 44), (1, .int v11), (2, .int a2), (3, .int x3)] M12 59 [] ?_ (fun hJ => ?_)
      · obtain ⟨v20, e21, h⟩ := bnd_e h
        refine J_iinc (v := v20) (pc := 59) dX0_fuelByRounds_59 3 rfl (by rw [e21]; rfl) (Nat.le_of_ble_eq_true rfl) [1, 2, 3, 0] rfl ?_
        refine J_goto (pc := 62) (tgt := 32) dX0_fuelByRounds_62 (by decide) ?_
        exact ih _ _ _ h
      · replace h := hv19
        refine J_icmp_eq (pc := 46) (tgt := 59) dX0_fuelByRounds_46 (by decide) (fun c13 => ?_) (fun c13 => ?_)
        · replace h := ifp c13 h
          cases h
          exact hJ
        · replace h := ifn c13 h
          refine J_aload_n (pc := 49) dX0_fuelByRounds_49 rfl 0 rfl ?_
          refine J_iload_n (pc := 50) dX0_fuelByRounds_50 rfl 3 rfl ?_
          obtain ⟨v14, M15, hc16, h⟩ := obind2_e h
          refine J_callV (g := mi_X0_hasCheapenedAround) (ci := 0) (pc := 51) [.int x3] [] mv_X0_hasCheapenedAround w_360 (k_X0_hasCheapenedAround  x3 _ hc16) rfl (by decide) rfl rfl rfl ⟨⟨Nat.le_of_ble_eq_true rfl, Nat.le_of_ble_eq_true rfl⟩, Nat.le_of_ble_eq_true rfl, Nat.le_of_ble_eq_true rfl⟩ (Nat.le_of_ble_eq_true rfl) dX0_fuelByRounds_51 (Jk_v rfl rfl fun hok17 => ?_)
          refine J_if_eq (pc := 54) (tgt := 59) dX0_fuelByRounds_54 (by decide) (fun c18 => ?_) (fun c18 => ?_)
          · replace h := ifp c18 h
            cases h
            exact hJ
          · replace h := ifn c18 h
            refine J_iconst (v := (1 : Int32)) (pc := 57) dX0_fuelByRounds_57 (by decide) ?_
            refine J_istore_n (pc := 58) dX0_fuelByRounds_58 rfl (Nat.le_of_ble_eq_true rfl) [1, 0, 2, 3] rfl ?_
            cases h
            exact hJ
set_option maxHeartbeats 4000000 in
set_option maxRecDepth 100000 in
theorem kL_X0_fuelByRounds_L17 {κ : Kx} {E : En} {Q : State → Prop} {ρ : Type} {r : ρ} (K71 : Wd → Option ρ) (hK71 : ∀ (M : Wd), K71 M = some r → J κ E mi_X0_fuelByRounds Q 0 0 [(0, .ref 44)] M 71 []) : ∀ (m : Nat) (x1 : Int32) (x2 : Int32) (M : Wd), F_X0_fuelByRounds_L17 K71 m x1 x2 M = some r → J κ E mi_X0_fuelByRounds Q 0 0 [(0, .ref 44), (1, .int x1), (2, .int x2)] M 17 [] := by
  intro m
  induction m with
  | zero => intro x1 x2 M h; exact (nomatch (show (none : Option ρ) = some r from h))
  | succ m ih =>
    intro x1 x2 M h
    unfold F_X0_fuelByRounds_L17 at h
    refine J_iload_n (pc := 17) dX0_fuelByRounds_17 rfl 2 rfl ?_
    refine J_sipush (v := (4096 : Int32)) (pc := 18) dX0_fuelByRounds_18 (by decide) ?_
    refine J_icmp_gt (pc := 21) (tgt := 71) dX0_fuelByRounds_21 (by decide) (fun c5 => ?_) (fun c5 => ?_)
    · replace h := ifp c5 h
      refine J_sub [0] rfl ?_
      exact hK71 _ h
    · replace h := ifn c5 h
      refine J_iload_n (pc := 24) dX0_fuelByRounds_24 rfl 1 rfl ?_
      refine J_if_eq (pc := 25) (tgt := 71) dX0_fuelByRounds_25 (by decide) (fun c6 => ?_) (fun c6 => ?_)
      · replace h := ifp c6 h
        refine J_sub [0] rfl ?_
        exact hK71 _ h
      · replace h := ifn c6 h
        refine J_iconst (v := (0 : Int32)) (pc := 28) dX0_fuelByRounds_28 (by decide) ?_
        refine J_istore_n (pc := 29) dX0_fuelByRounds_29 rfl (Nat.le_of_ble_eq_true rfl) [1, 0, 2] rfl ?_
        refine J_iconst (v := (0 : Int32)) (pc := 30) dX0_fuelByRounds_30 (by decide) ?_
        refine J_istore_n (pc := 31) dX0_fuelByRounds_31 rfl (Nat.le_of_ble_eq_true rfl) [1, 2, 3, 0] rfl ?_
        refine J_LS [(0, .ref 44), (1, .int (0 : Int32)), (2, .int x2), (3, .int (0 : Int32))] [] rfl rfl ?_
        refine kL_X0_fuelByRounds_L32 _ _ (fun v22 M23 h => ?_) fuelN _ _ _ h
        obtain ⟨v24, e25, h⟩ := bnd_e h
        refine J_iinc (v := v24) (pc := 65) dX0_fuelByRounds_65 2 rfl (by rw [e25]; rfl) (Nat.le_of_ble_eq_true rfl) [1, 2, 0] rfl ?_
        refine J_goto (pc := 68) (tgt := 17) dX0_fuelByRounds_68 (by decide) ?_
        exact ih _ _ _ h
set_option maxHeartbeats 4000000 in
set_option maxRecDepth 100000 in
theorem k_X0_fuelByRounds {E : En} (M : Wd) {r : Int32} {M' : Wd} (h : F_X0_fuelByRounds M = some (r, M')) : Con E mi_X0_fuelByRounds [.ref 44] M (.inl (some (.int r))) M' := by
  unfold F_X0_fuelByRounds at h
  refine Con.of (by decide) rfl (Nat.le_of_ble_eq_true rfl) (fun κ => ?_)
  show J κ E mi_X0_fuelByRounds _ 0 0 [(0, .ref 44)] M 0 []
  refine J_aload_n (pc := 0) dX0_fuelByRounds_0 rfl 0 rfl ?_
  obtain ⟨M1, hc2, h⟩ := obind_e h
  refine J_callV (g := mi_X0_forget) (ci := 0) (pc := 1) [] [] mv_X0_forget w_284 (k_X0_forget _ hc2) rfl (by decide) rfl rfl rfl ⟨⟨Nat.le_of_ble_eq_true rfl, Nat.le_of_ble_eq_true rfl⟩, Nat.le_of_ble_eq_true rfl, Nat.le_of_ble_eq_true rfl⟩ (Nat.le_of_ble_eq_true rfl) dX0_fuelByRounds_1 (Jk_0 rfl rfl ?_)
  refine J_aload_n (pc := 4) dX0_fuelByRounds_4 rfl 0 rfl ?_
  refine J_aload_n (pc := 5) dX0_fuelByRounds_5 rfl 0 rfl ?_
  refine get_44_8 (pc := 6) w_107 dX0_fuelByRounds_6 ?_
  refine J_iconst (v := (0 : Int32)) (pc := 9) dX0_fuelByRounds_9 (by decide) ?_
  obtain ⟨M3, hc4, h⟩ := obind_e h
  refine J_callV (g := mi_X0_find) (ci := 0) (pc := 10) [.int (M1.1 44 8), .int (0 : Int32)] [] mv_X0_find w_288 (k_X0_find (M1.1 44 8) (0 : Int32) _ hc4) rfl (by decide) rfl rfl rfl ⟨⟨Nat.le_of_ble_eq_true rfl, Nat.le_of_ble_eq_true rfl⟩, Nat.le_of_ble_eq_true rfl, Nat.le_of_ble_eq_true rfl⟩ (Nat.le_of_ble_eq_true rfl) dX0_fuelByRounds_10 (Jk_0 rfl rfl ?_)
  refine J_iconst (v := (1 : Int32)) (pc := 13) dX0_fuelByRounds_13 (by decide) ?_
  refine J_istore_n (pc := 14) dX0_fuelByRounds_14 rfl (Nat.le_of_ble_eq_true rfl) [1, 0] rfl ?_
  refine J_iconst (v := (0 : Int32)) (pc := 15) dX0_fuelByRounds_15 (by decide) ?_
  refine J_istore_n (pc := 16) dX0_fuelByRounds_16 rfl (Nat.le_of_ble_eq_true rfl) [1, 2, 0] rfl ?_
  refine J_LS [(0, .ref 44), (1, .int (1 : Int32)), (2, .int (0 : Int32))] [] rfl rfl ?_
  refine kL_X0_fuelByRounds_L17 _ (fun M26 h => ?_) fuelN _ _ _ h
  refine J_aload_n (pc := 71) dX0_fuelByRounds_71 rfl 0 rfl ?_
  obtain ⟨v27, hc28, h⟩ := obind_e h
  refine J_callV (g := mi_X0_leastCostOut) (ci := 0) (pc := 72) [] [] mv_X0_leastCostOut w_312 (k_X0_leastCostOut  _ hc28) rfl (by decide) rfl rfl rfl ⟨⟨Nat.le_of_ble_eq_true rfl, Nat.le_of_ble_eq_true rfl⟩, Nat.le_of_ble_eq_true rfl, Nat.le_of_ble_eq_true rfl⟩ (Nat.le_of_ble_eq_true rfl) dX0_fuelByRounds_72 (Jk_v rfl rfl fun hok29 => ?_)
  cases h
  exact J_ireturn dX0_fuelByRounds_75 rfl rfl rfl rfl rfl
set_option maxHeartbeats 4000000 in
set_option maxRecDepth 100000 in
theorem k_X1_hasCar {E : En} (a1 : Int32) (M : Wd) : Con E mi_X1_hasCar [.ref 1, .int a1] M (.inl (some (.int (F_X1_hasCar a1 M)))) M := by
  obtain ⟨r, h⟩ : ∃ r, F_X1_hasCar a1 M = r := ⟨_, rfl⟩
  rw [h]
  unfold F_X1_hasCar at h
  refine Con.of (by decide) rfl (Nat.le_of_ble_eq_true rfl) (fun κ => ?_)
  show J κ E mi_X1_hasCar _ 0 0 [(0, .ref 1), (1, .int a1)] M 0 []
  refine J_iload_n (pc := 0) dX1_hasCar_0 rfl 1 rfl ?_
  refine J_if_lt (pc := 1) (tgt := 22) dX1_hasCar_1 (by decide) (fun c1 => ?_) (fun c1 => ?_)
  · replace h := ifp c1 h
    refine J_iconst (v := (0 : Int32)) (pc := 22) dX1_hasCar_22 (by decide) ?_
    subst h
    exact J_zreturn dX1_hasCar_23 rfl (Or.inl rfl) rfl rfl rfl rfl
  · replace h := ifn c1 h
    refine J_iload_n (pc := 4) dX1_hasCar_4 rfl 1 rfl ?_
    refine J_aload_n (pc := 5) dX1_hasCar_5 rfl 0 rfl ?_
    refine get_1_5 (pc := 6) w_60 dX1_hasCar_6 ?_
    refine J_icmp_ge (pc := 9) (tgt := 22) dX1_hasCar_9 (by decide) (fun c2 => ?_) (fun c2 => ?_)
    · replace h := ifp c2 h
      refine J_iconst (v := (0 : Int32)) (pc := 22) dX1_hasCar_22 (by decide) ?_
      subst h
      exact J_zreturn dX1_hasCar_23 rfl (Or.inl rfl) rfl rfl rfl rfl
    · replace h := ifn c2 h
      refine J_iload_n (pc := 12) dX1_hasCar_12 rfl 1 rfl ?_
      refine J_bipush (v := (6 : Int32)) (pc := 13) dX1_hasCar_13 (by decide) ?_
      refine J_icmp_ge (pc := 15) (tgt := 22) dX1_hasCar_15 (by decide) (fun c3 => ?_) (fun c3 => ?_)
      · replace h := ifp c3 h
        refine J_iconst (v := (0 : Int32)) (pc := 22) dX1_hasCar_22 (by decide) ?_
        subst h
        exact J_zreturn dX1_hasCar_23 rfl (Or.inl rfl) rfl rfl rfl rfl
      · replace h := ifn c3 h
        refine J_iconst (v := (1 : Int32)) (pc := 18) dX1_hasCar_18 (by decide) ?_
        refine J_goto (pc := 19) (tgt := 23) dX1_hasCar_19 (by decide) ?_
        subst h
        exact J_zreturn dX1_hasCar_23 rfl (Or.inr rfl) rfl rfl rfl rfl
set_option maxHeartbeats 4000000 in
set_option maxRecDepth 100000 in
theorem k_X1_hasSlide {E : En} (a1 : Int32) (M : Wd) : Con E mi_X1_hasSlide [.ref 1, .int a1] M (.inl (some (.int (F_X1_hasSlide a1 M)))) M := by
  obtain ⟨r, h⟩ : ∃ r, F_X1_hasSlide a1 M = r := ⟨_, rfl⟩
  rw [h]
  unfold F_X1_hasSlide at h
  refine Con.of (by decide) rfl (Nat.le_of_ble_eq_true rfl) (fun κ => ?_)
  show J κ E mi_X1_hasSlide _ 0 0 [(0, .ref 1), (1, .int a1)] M 0 []
  refine J_iload_n (pc := 0) dX1_hasSlide_0 rfl 1 rfl ?_
  refine J_if_lt (pc := 1) (tgt := 22) dX1_hasSlide_1 (by decide) (fun c1 => ?_) (fun c1 => ?_)
  · replace h := ifp c1 h
    refine J_iconst (v := (0 : Int32)) (pc := 22) dX1_hasSlide_22 (by decide) ?_
    subst h
    exact J_zreturn dX1_hasSlide_23 rfl (Or.inl rfl) rfl rfl rfl rfl
  · replace h := ifn c1 h
    refine J_iload_n (pc := 4) dX1_hasSlide_4 rfl 1 rfl ?_
    refine J_aload_n (pc := 5) dX1_hasSlide_5 rfl 0 rfl ?_
    refine get_1_7 (pc := 6) w_64 dX1_hasSlide_6 ?_
    refine J_icmp_ge (pc := 9) (tgt := 22) dX1_hasSlide_9 (by decide) (fun c2 => ?_) (fun c2 => ?_)
    · replace h := ifp c2 h
      refine J_iconst (v := (0 : Int32)) (pc := 22) dX1_hasSlide_22 (by decide) ?_
      subst h
      exact J_zreturn dX1_hasSlide_23 rfl (Or.inl rfl) rfl rfl rfl rfl
    · replace h := ifn c2 h
      refine J_iload_n (pc := 12) dX1_hasSlide_12 rfl 1 rfl ?_
      refine J_bipush (v := (60 : Int32)) (pc := 13) dX1_hasSlide_13 (by decide) ?_
      refine J_icmp_ge (pc := 15) (tgt := 22) dX1_hasSlide_15 (by decide) (fun c3 => ?_) (fun c3 => ?_)
      · replace h := ifp c3 h
        refine J_iconst (v := (0 : Int32)) (pc := 22) dX1_hasSlide_22 (by decide) ?_
        subst h
        exact J_zreturn dX1_hasSlide_23 rfl (Or.inl rfl) rfl rfl rfl rfl
      · replace h := ifn c3 h
        refine J_iconst (v := (1 : Int32)) (pc := 18) dX1_hasSlide_18 (by decide) ?_
        refine J_goto (pc := 19) (tgt := 23) dX1_hasSlide_19 (by decide) ?_
        subst h
        exact J_zreturn dX1_hasSlide_23 rfl (Or.inr rfl) rfl rfl rfl rfl
set_option maxHeartbeats 4000000 in
set_option maxRecDepth 100000 in
theorem k_X1_hasWallAt {E : En} (a1 : Int32) (M : Wd) : Con E mi_X1_hasWallAt [.ref 1, .int a1] M (.inl (some (.int (F_X1_hasWallAt a1 M)))) M := by
  obtain ⟨r, h⟩ : ∃ r, F_X1_hasWallAt a1 M = r := ⟨_, rfl⟩
  rw [h]
  unfold F_X1_hasWallAt at h
  refine Con.of (by decide) rfl (Nat.le_of_ble_eq_true rfl) (fun κ => ?_)
  show J κ E mi_X1_hasWallAt _ 0 0 [(0, .ref 1), (1, .int a1)] M 0 []
  refine J_aload_n (pc := 0) dX1_hasWallAt_0 rfl 0 rfl ?_
  refine get_1_6 (pc := 1) w_62 dX1_hasWallAt_1 ?_
  refine J_iconst (v := (1 : Int32)) (pc := 4) dX1_hasWallAt_4 (by decide) ?_
  refine J_iload_n (pc := 5) dX1_hasWallAt_5 rfl 1 rfl ?_
  refine J_ishl (pc := 6) dX1_hasWallAt_6 ?_
  refine J_iand (pc := 7) dX1_hasWallAt_7 ?_
  refine J_if_eq (pc := 8) (tgt := 15) dX1_hasWallAt_8 (by decide) (fun c1 => ?_) (fun c1 => ?_)
  · replace h := ifp c1 h
    refine J_iconst (v := (0 : Int32)) (pc := 15) dX1_hasWallAt_15 (by decide) ?_
    subst h
    exact J_zreturn dX1_hasWallAt_16 rfl (Or.inl rfl) rfl rfl rfl rfl
  · replace h := ifn c1 h
    refine J_iconst (v := (1 : Int32)) (pc := 11) dX1_hasWallAt_11 (by decide) ?_
    refine J_goto (pc := 12) (tgt := 16) dX1_hasWallAt_12 (by decide) ?_
    subst h
    exact J_zreturn dX1_hasWallAt_16 rfl (Or.inr rfl) rfl rfl rfl rfl
set_option maxHeartbeats 4000000 in
set_option maxRecDepth 100000 in
theorem kL_X1_carAt_L2 {κ : Kx} {E : En} {Q : State → Prop} {ρ : Type} {r : ρ} (a1 : Int32) (M : Wd) (K44 : Int32 → Option ρ) (K52 : Option ρ) (hK44 : ∀ (x2 : Int32), K44 x2 = some r → J κ E mi_X1_carAt Q 0 0 [(2, .int x2)] M 44 []) (hK52 : K52 = some r → J κ E mi_X1_carAt Q 0 0 [] M 52 []) : ∀ (m : Nat) (x2 : Int32), F_X1_carAt_L2 a1 M K44 K52 m x2 = some r → J κ E mi_X1_carAt Q 0 0 [(0, .ref 1), (1, .int a1), (2, .int x2)] M 2 [] := by
  intro m
  induction m with
  | zero => intro x2 h; exact (nomatch (show (none : Option ρ) = some r from h))
  | succ m ih =>
    intro x2 h
    unfold F_X1_carAt_L2 at h
    refine J_iload_n (pc := 2) dX1_carAt_2 rfl 2 rfl ?_
    refine J_aload_n (pc := 3) dX1_carAt_3 rfl 0 rfl ?_
    refine get_1_5 (pc := 4) w_60 dX1_carAt_4 ?_
    refine J_icmp_ge (pc := 7) (tgt := 52) dX1_carAt_7 (by decide) (fun c1 => ?_) (fun c1 => ?_)
    · replace h := ifp c1 h
      refine J_sub [] rfl ?_
      exact hK52 h
    · replace h := ifn c1 h
      refine J_iload_n (pc := 10) dX1_carAt_10 rfl 2 rfl ?_
      refine J_bipush (v := (6 : Int32)) (pc := 11) dX1_carAt_11 (by decide) ?_
      refine J_icmp_ge (pc := 13) (tgt := 52) dX1_carAt_13 (by decide) (fun c2 => ?_) (fun c2 => ?_)
      · replace h := ifp c2 h
        refine J_sub [] rfl ?_
        exact hK52 h
      · replace h := ifn c2 h
        refine J_aload_n (pc := 16) dX1_carAt_16 rfl 0 rfl ?_
        refine get_1_0 (pc := 17) w_47 dX1_carAt_17 ?_
        refine J_iload_n (pc := 20) dX1_carAt_20 rfl 2 rfl ?_
        obtain ⟨v3, e4, hk5, h⟩ := ldi_e h
        refine J_iald (c := 2) (N := 6) (pc := 21) ja_2 (Nat.le_of_ble_eq_true rfl) hk5 dX1_carAt_21 ?_
        refine J_topi e4 ?_
        refine J_aload_n (pc := 22) dX1_carAt_22 rfl 0 rfl ?_
        refine get_1_1 (pc := 23) w_50 dX1_carAt_23 ?_
        refine J_iload_n (pc := 26) dX1_carAt_26 rfl 2 rfl ?_
        obtain ⟨v6, e7, hk8, h⟩ := ldi_e h
        refine J_iald (c := 3) (N := 6) (pc := 27) ja_3 (Nat.le_of_ble_eq_true rfl) hk8 dX1_carAt_27 ?_
        refine J_topi e7 ?_
        refine J_aload_n (pc := 28) dX1_carAt_28 rfl 0 rfl ?_
        refine get_1_2 (pc := 29) w_53 dX1_carAt_29 ?_
        refine J_iload_n (pc := 32) dX1_carAt_32 rfl 2 rfl ?_
        obtain ⟨v9, e10, hk11, h⟩ := ldi_e h
        refine J_iald (c := 4) (N := 6) (pc := 33) ja_4 (Nat.le_of_ble_eq_true rfl) hk11 dX1_carAt_33 ?_
        refine J_topi e10 ?_
        refine J_callSN (g := mi_X3_cellsOf) (pc := 34) [.int v3, .int v6, .int v9] [] ms_X3_cellsOf w_207 (k_X3_cellsOf  v3 v6 v9 _) rfl rfl ⟨⟨Nat.le_of_ble_eq_true rfl, Nat.le_of_ble_eq_true rfl⟩, Nat.le_of_ble_eq_true rfl, Nat.le_of_ble_eq_true rfl⟩ (Nat.le_of_ble_eq_true rfl) dX1_carAt_34 (Jk_v rfl rfl fun hok12 => ?_)
        refine J_iconst (v := (1 : Int32)) (pc := 37) dX1_carAt_37 (by decide) ?_
        refine J_iload_n (pc := 38) dX1_carAt_38 rfl 1 rfl ?_
        refine J_ishl (pc := 39) dX1_carAt_39 ?_
        refine J_iand (pc := 40) dX1_carAt_40 ?_
        refine J_if_eq (pc := 41) (tgt := 46) dX1_carAt_41 (by decide) (fun c13 => ?_) (fun c13 => ?_)
        · replace h := ifp c13 h
          obtain ⟨v14, e15, h⟩ := bnd_e h
          refine J_iinc (v := v14) (pc := 46) dX1_carAt_46 2 rfl (by rw [e15]; rfl) (Nat.le_of_ble_eq_true rfl) [1, 2, 0] rfl ?_
          refine J_goto (pc := 49) (tgt := 2) dX1_carAt_49 (by decide) ?_
          exact ih _ h
        · replace h := ifn c13 h
          refine J_sub [2] rfl ?_
          exact hK44 _ h
set_option maxHeartbeats 4000000 in
set_option maxRecDepth 100000 in
theorem k_X1_carAt {E : En} (a1 : Int32) (M : Wd) {r : Int32} (h : F_X1_carAt a1 M = some r) : Con E mi_X1_carAt [.ref 1, .int a1] M (.inl (some (.int r))) M := by
  unfold F_X1_carAt at h
  refine Con.of (by decide) rfl (Nat.le_of_ble_eq_true rfl) (fun κ => ?_)
  show J κ E mi_X1_carAt _ 0 0 [(0, .ref 1), (1, .int a1)] M 0 []
  refine J_iconst (v := (0 : Int32)) (pc := 0) dX1_carAt_0 (by decide) ?_
  refine J_istore_n (pc := 1) dX1_carAt_1 rfl (Nat.le_of_ble_eq_true rfl) [1, 2, 0] rfl ?_
  refine kL_X1_carAt_L2 _ _ _ _ (fun v16 h => ?_) (fun h => ?_) fuelN _ h
  · refine J_iload_n (pc := 44) dX1_carAt_44 rfl 0 rfl ?_
    cases h
    exact J_ireturn dX1_carAt_45 rfl rfl rfl rfl rfl
  · refine J_iconst (v := (-1 : Int32)) (pc := 52) dX1_carAt_52 (by decide) ?_
    cases h
    exact J_ireturn dX1_carAt_53 rfl rfl rfl rfl rfl
set_option maxHeartbeats 4000000 in
set_option maxRecDepth 100000 in
theorem kL_X1_takenCells_L7 {κ : Kx} {E : En} {Q : State → Prop} {ρ : Type} {r : ρ} (M : Wd) (K51 : Int32 → Option ρ) (hK51 : ∀ (x1 : Int32), K51 x1 = some r → J κ E mi_X1_takenCells Q 0 0 [(1, .int x1)] M 51 []) : ∀ (m : Nat) (x1 : Int32) (x2 : Int32), F_X1_takenCells_L7 M K51 m x1 x2 = some r → J κ E mi_X1_takenCells Q 0 0 [(0, .ref 1), (1, .int x1), (2, .int x2)] M 7 [] := by
  intro m
  induction m with
  | zero => intro x1 x2 h; exact (nomatch (show (none : Option ρ) = some r from h))
  | succ m ih =>
    intro x1 x2 h
    unfold F_X1_takenCells_L7 at h
    refine J_iload_n (pc := 7) dX1_takenCells_7 rfl 2 rfl ?_
    refine J_aload_n (pc := 8) dX1_takenCells_8 rfl 0 rfl ?_
    refine get_1_5 (pc := 9) w_60 dX1_takenCells_9 ?_
    refine J_icmp_ge (pc := 12) (tgt := 51) dX1_takenCells_12 (by decide) (fun c3 => ?_) (fun c3 => ?_)
    · replace h := ifp c3 h
      refine J_sub [1] rfl ?_
      exact hK51 _ h
    · replace h := ifn c3 h
      refine J_iload_n (pc := 15) dX1_takenCells_15 rfl 2 rfl ?_
      refine J_bipush (v := (6 : Int32)) (pc := 16) dX1_takenCells_16 (by decide) ?_
      refine J_icmp_ge (pc := 18) (tgt := 51) dX1_takenCells_18 (by decide) (fun c4 => ?_) (fun c4 => ?_)
      · replace h := ifp c4 h
        refine J_sub [1] rfl ?_
        exact hK51 _ h
      · replace h := ifn c4 h
        refine J_iload_n (pc := 21) dX1_takenCells_21 rfl 1 rfl ?_
        refine J_aload_n (pc := 22) dX1_takenCells_22 rfl 0 rfl ?_
        refine get_1_0 (pc := 23) w_47 dX1_takenCells_23 ?_
        refine J_iload_n (pc := 26) dX1_takenCells_26 rfl 2 rfl ?_
        obtain ⟨v5, e6, hk7, h⟩ := ldi_e h
        refine J_iald (c := 2) (N := 6) (pc := 27) ja_2 (Nat.le_of_ble_eq_true rfl) hk7 dX1_takenCells_27 ?_
        refine J_topi e6 ?_
        refine J_aload_n (pc := 28) dX1_takenCells_28 rfl 0 rfl ?_
        refine get_1_1 (pc := 29) w_50 dX1_takenCells_29 ?_
        refine J_iload_n (pc := 32) dX1_takenCells_32 rfl 2 rfl ?_
        obtain ⟨v8, e9, hk10, h⟩ := ldi_e h
        refine J_iald (c := 3) (N := 6) (pc := 33) ja_3 (Nat.le_of_ble_eq_true rfl) hk10 dX1_takenCells_33 ?_
        refine J_topi e9 ?_
        refine J_aload_n (pc := 34) dX1_takenCells_34 rfl 0 rfl ?_
        refine get_1_2 (pc := 35) w_53 dX1_takenCells_35 ?_
        refine J_iload_n (pc := 38) dX1_takenCells_38 rfl 2 rfl ?_
        obtain ⟨v11, e12, hk13, h⟩ := ldi_e h
        refine J_iald (c := 4) (N := 6) (pc := 39) ja_4 (Nat.le_of_ble_eq_true rfl) hk13 dX1_takenCells_39 ?_
        refine J_topi e12 ?_
        refine J_callSN (g := mi_X3_cellsOf) (pc := 40) [.int v5, .int v8, .int v11] [.int x1] ms_X3_cellsOf w_207 (k_X3_cellsOf  v5 v8 v11 _) rfl rfl ⟨⟨Nat.le_of_ble_eq_true rfl, Nat.le_of_ble_eq_true rfl⟩, Nat.le_of_ble_eq_true rfl, Nat.le_of_ble_eq_true rfl⟩ (Nat.le_of_ble_eq_true rfl) dX1_takenCells_40 (Jk_v rfl rfl fun hok14 => ?_)
        refine J_ior (pc := 43) dX1_takenCells_43 ?_
        obtain ⟨v15, e16, h⟩ := bnd_e h
        refine J_topi e16 ?_
        refine J_istore_n (pc := 44) dX1_takenCells_44 rfl (Nat.le_of_ble_eq_true rfl) [1, 0, 2] rfl ?_
        obtain ⟨v17, e18, h⟩ := bnd_e h
        refine J_iinc (v := v17) (pc := 45) dX1_takenCells_45 2 rfl (by rw [e18]; rfl) (Nat.le_of_ble_eq_true rfl) [1, 2, 0] rfl ?_
        refine J_LS [(0, .ref 1), (1, .int v15), (2, .int v17)] [] rfl rfl ?_
        refine J_goto (pc := 48) (tgt := 7) dX1_takenCells_48 (by decide) ?_
        exact ih _ _ h
set_option maxHeartbeats 4000000 in
set_option maxRecDepth 100000 in
theorem k_X1_takenCells {E : En} (M : Wd) {r : Int32} (h : F_X1_takenCells M = some r) : Con E mi_X1_takenCells [.ref 1] M (.inl (some (.int r))) M := by
  unfold F_X1_takenCells at h
  refine Con.of (by decide) rfl (Nat.le_of_ble_eq_true rfl) (fun κ => ?_)
  show J κ E mi_X1_takenCells _ 0 0 [(0, .ref 1)] M 0 []
  refine J_aload_n (pc := 0) dX1_takenCells_0 rfl 0 rfl ?_
  refine get_1_6 (pc := 1) w_62 dX1_takenCells_1 ?_
  obtain ⟨v1, e2, h⟩ := bnd_e h
  refine J_topi e2 ?_
  refine J_istore_n (pc := 4) dX1_takenCells_4 rfl (Nat.le_of_ble_eq_true rfl) [1, 0] rfl ?_
  refine J_iconst (v := (0 : Int32)) (pc := 5) dX1_takenCells_5 (by decide) ?_
  refine J_istore_n (pc := 6) dX1_takenCells_6 rfl (Nat.le_of_ble_eq_true rfl) [1, 2, 0] rfl ?_
  refine J_LS [(0, .ref 1), (1, .int v1), (2, .int (0 : Int32))] [] rfl rfl ?_
  refine kL_X1_takenCells_L7 _ _ (fun v19 h => ?_) fuelN _ _ h
  refine J_iload_n (pc := 51) dX1_takenCells_51 rfl 0 rfl ?_
  cases h
  exact J_ireturn dX1_takenCells_52 rfl rfl rfl rfl rfl
set_option maxHeartbeats 4000000 in
set_option maxRecDepth 100000 in
theorem k_X1_isRedOut {E : En} (M : Wd) : Con E mi_X1_isRedOut [.ref 1] M (.inl (some (.int (F_X1_isRedOut M)))) M := by
  obtain ⟨r, h⟩ : ∃ r, F_X1_isRedOut M = r := ⟨_, rfl⟩
  rw [h]
  unfold F_X1_isRedOut at h
  refine Con.of (by decide) rfl (Nat.le_of_ble_eq_true rfl) (fun κ => ?_)
  show J κ E mi_X1_isRedOut _ 0 0 [(0, .ref 1)] M 0 []
  refine J_aload_n (pc := 0) dX1_isRedOut_0 rfl 0 rfl ?_
  refine get_1_5 (pc := 1) w_60 dX1_isRedOut_1 ?_
  refine J_if_le (pc := 4) (tgt := 28) dX1_isRedOut_4 (by decide) (fun c1 => ?_) (fun c1 => ?_)
  · replace h := ifp c1 h
    refine J_iconst (v := (0 : Int32)) (pc := 28) dX1_isRedOut_28 (by decide) ?_
    subst h
    exact J_zreturn dX1_isRedOut_29 rfl (Or.inl rfl) rfl rfl rfl rfl
  · replace h := ifn c1 h
    refine J_aload_n (pc := 7) dX1_isRedOut_7 rfl 0 rfl ?_
    refine get_1_1 (pc := 8) w_50 dX1_isRedOut_8 ?_
    refine J_iconst (v := (0 : Int32)) (pc := 11) dX1_isRedOut_11 (by decide) ?_
    refine J_iald (c := 3) (N := 6) (pc := 12) ja_3 (Nat.le_of_ble_eq_true rfl) (vpc rfl) dX1_isRedOut_12 ?_
    refine J_topi (x := M.1 3 (Int32.toNatClampNeg 0)) (y := (M.1 3 0)) (Eq.symm (a := M.1 3 (Int32.toNatClampNeg 0)) (show M.1 3 0 = (M.1 3 0) from rfl)) ?_
    refine J_aload_n (pc := 13) dX1_isRedOut_13 rfl 0 rfl ?_
    refine get_1_2 (pc := 14) w_53 dX1_isRedOut_14 ?_
    refine J_iconst (v := (0 : Int32)) (pc := 17) dX1_isRedOut_17 (by decide) ?_
    refine J_iald (c := 4) (N := 6) (pc := 18) ja_4 (Nat.le_of_ble_eq_true rfl) (vpc rfl) dX1_isRedOut_18 ?_
    refine J_topi (x := M.1 4 (Int32.toNatClampNeg 0)) (y := (M.1 4 0)) (Eq.symm (a := M.1 4 (Int32.toNatClampNeg 0)) (show M.1 4 0 = (M.1 4 0) from rfl)) ?_
    refine J_iadd (pc := 19) dX1_isRedOut_19 ?_
    refine J_iconst (v := (5 : Int32)) (pc := 20) dX1_isRedOut_20 (by decide) ?_
    refine J_icmp_ne (pc := 21) (tgt := 28) dX1_isRedOut_21 (by decide) (fun c2 => ?_) (fun c2 => ?_)
    · replace h := ifn c2 h
      refine J_iconst (v := (0 : Int32)) (pc := 28) dX1_isRedOut_28 (by decide) ?_
      subst h
      exact J_zreturn dX1_isRedOut_29 rfl (Or.inl rfl) rfl rfl rfl rfl
    · replace h := ifp c2 h
      refine J_iconst (v := (1 : Int32)) (pc := 24) dX1_isRedOut_24 (by decide) ?_
      refine J_goto (pc := 25) (tgt := 29) dX1_isRedOut_25 (by decide) ?_
      subst h
      exact J_zreturn dX1_isRedOut_29 rfl (Or.inr rfl) rfl rfl rfl rfl
set_option maxHeartbeats 4000000 in
set_option maxRecDepth 100000 in
theorem k_X3_bitOf {E : En} (a0 : Int32) (a1 : Int32) (M : Wd) : Con E mi_X3_bitOf [.int a0, .int a1] M (.inl (some (.int (F_X3_bitOf a0 a1)))) M := by
  obtain ⟨r, h⟩ : ∃ r, F_X3_bitOf a0 a1 = r := ⟨_, rfl⟩
  rw [h]
  unfold F_X3_bitOf at h
  refine Con.of (by decide) rfl (Nat.le_of_ble_eq_true rfl) (fun κ => ?_)
  show J κ E mi_X3_bitOf _ 0 0 [(0, .int a0), (1, .int a1)] M 0 []
  refine J_iload_n (pc := 0) dX3_bitOf_0 rfl 0 rfl ?_
  refine J_iconst (v := (5 : Int32)) (pc := 1) dX3_bitOf_1 (by decide) ?_
  refine J_icmp_ge (pc := 2) (tgt := 15) dX3_bitOf_2 (by decide) (fun c1 => ?_) (fun c1 => ?_)
  · replace h := ifp c1 h
    refine J_iconst (v := (1 : Int32)) (pc := 15) dX3_bitOf_15 (by decide) ?_
    refine J_iconst (v := (5 : Int32)) (pc := 16) dX3_bitOf_16 (by decide) ?_
    refine J_iload_n (pc := 17) dX3_bitOf_17 rfl 1 rfl ?_
    refine J_imul (pc := 18) dX3_bitOf_18 ?_
    refine J_iload_n (pc := 19) dX3_bitOf_19 rfl 0 rfl ?_
    refine J_iadd (pc := 20) dX3_bitOf_20 ?_
    refine J_iconst (v := (5 : Int32)) (pc := 21) dX3_bitOf_21 (by decide) ?_
    refine J_isub (pc := 22) dX3_bitOf_22 ?_
    refine J_ishl (pc := 23) dX3_bitOf_23 ?_
    subst h
    exact J_ireturn dX3_bitOf_24 rfl rfl rfl rfl rfl
  · replace h := ifn c1 h
    refine J_iconst (v := (1 : Int32)) (pc := 5) dX3_bitOf_5 (by decide) ?_
    refine J_iconst (v := (5 : Int32)) (pc := 6) dX3_bitOf_6 (by decide) ?_
    refine J_iload_n (pc := 7) dX3_bitOf_7 rfl 0 rfl ?_
    refine J_imul (pc := 8) dX3_bitOf_8 ?_
    refine J_iload_n (pc := 9) dX3_bitOf_9 rfl 1 rfl ?_
    refine J_iadd (pc := 10) dX3_bitOf_10 ?_
    refine J_ishl (pc := 11) dX3_bitOf_11 ?_
    refine J_goto (pc := 12) (tgt := 24) dX3_bitOf_12 (by decide) ?_
    subst h
    exact J_ireturn dX3_bitOf_24 rfl rfl rfl rfl rfl
set_option maxHeartbeats 4000000 in
set_option maxRecDepth 100000 in
theorem kL_X1_roomOf_L48 {κ : Kx} {E : En} {Q : State → Prop} {ρ : Type} {r : ρ} (a1 : Int32) (a2 : Int32) (a3 : Int32) (M : Wd) (K93 : Int32 → Option ρ) (hK93 : ∀ (x5 : Int32), K93 x5 = some r → J κ E mi_X1_roomOf Q 0 0 [(5, .int x5)] M 93 []) : ∀ (m : Nat) (x4 : Int32) (x5 : Int32), F_X1_roomOf_L48 a1 a2 a3 M K93 m x4 x5 = some r → J κ E mi_X1_roomOf Q 0 0 [(0, .ref 1), (1, .int a1), (2, .int a2), (3, .int a3), (4, .int x4), (5, .int x5)] M 48 [] := by
  intro m
  induction m with
  | zero => intro x4 x5 h; exact (nomatch (show (none : Option ρ) = some r from h))
  | succ m ih =>
    intro x4 x5 h
    unfold F_X1_roomOf_L48 at h
    refine J_iload (pc := 48) dX1_roomOf_48 5 rfl ?_
    refine J_iconst (v := (3 : Int32)) (pc := 50) dX1_roomOf_50 (by decide) ?_
    refine J_icmp_ge (pc := 51) (tgt := 93) dX1_roomOf_51 (by decide) (fun c18 => ?_) (fun c18 => ?_)
    · replace h := ifp c18 h
      refine J_sub [5] rfl ?_
      exact hK93 _ h
    · replace h := ifn c18 h
      refine J_iload (pc := 54) dX1_roomOf_54 4 rfl ?_
      refine J_if_lt (pc := 56) (tgt := 93) dX1_roomOf_56 (by decide) (fun c19 => ?_) (fun c19 => ?_)
      · replace h := ifp c19 h
        refine J_sub [5] rfl ?_
        exact hK93 _ h
      · replace h := ifn c19 h
        refine J_iload (pc := 59) dX1_roomOf_59 4 rfl ?_
        refine J_iconst (v := (5 : Int32)) (pc := 61) dX1_roomOf_61 (by decide) ?_
        refine J_icmp_ge (pc := 62) (tgt := 93) dX1_roomOf_62 (by decide) (fun c20 => ?_) (fun c20 => ?_)
        · replace h := ifp c20 h
          refine J_sub [5] rfl ?_
          exact hK93 _ h
        · replace h := ifn c20 h
          refine J_iload_n (pc := 65) dX1_roomOf_65 rfl 3 rfl ?_
          refine J_aload_n (pc := 66) dX1_roomOf_66 rfl 0 rfl ?_
          refine get_1_0 (pc := 67) w_47 dX1_roomOf_67 ?_
          refine J_iload_n (pc := 70) dX1_roomOf_70 rfl 1 rfl ?_
          obtain ⟨v21, e22, hk23, h⟩ := ldi_e h
          refine J_iald (c := 2) (N := 6) (pc := 71) ja_2 (Nat.le_of_ble_eq_true rfl) hk23 dX1_roomOf_71 ?_
          refine J_topi e22 ?_
          refine J_iload (pc := 72) dX1_roomOf_72 4 rfl ?_
          refine J_callSN (g := mi_X3_bitOf) (pc := 74) [.int v21, .int x4] [.int a3] ms_X3_bitOf w_232 (k_X3_bitOf  v21 x4 _) rfl rfl ⟨⟨Nat.le_of_ble_eq_true rfl, Nat.le_of_ble_eq_true rfl⟩, Nat.le_of_ble_eq_true rfl, Nat.le_of_ble_eq_true rfl⟩ (Nat.le_of_ble_eq_true rfl) dX1_roomOf_74 (Jk_v rfl rfl fun hok24 => ?_)
          refine J_iand (pc := 77) dX1_roomOf_77 ?_
          refine J_if_ne (pc := 78) (tgt := 93) dX1_roomOf_78 (by decide) (fun c25 => ?_) (fun c25 => ?_)
          · replace h := ifn c25 h
            refine J_sub [5] rfl ?_
            exact hK93 _ h
          · replace h := ifp c25 h
            obtain ⟨v26, e27, h⟩ := bnd_e h
            refine J_iinc (v := v26) (pc := 81) dX1_roomOf_81 5 rfl (by rw [e27]; rfl) (Nat.le_of_ble_eq_true rfl) [1, 2, 3, 4, 5, 0] rfl ?_
            refine J_iload (pc := 84) dX1_roomOf_84 4 rfl ?_
            refine J_iload_n (pc := 86) dX1_roomOf_86 rfl 2 rfl ?_
            refine J_iadd (pc := 87) dX1_roomOf_87 ?_
            obtain ⟨v28, e29, h⟩ := bnd_e h
            refine J_topi e29 ?_
            refine J_istore (pc := 88) dX1_roomOf_88 (Nat.le_of_ble_eq_true rfl) [1, 2, 3, 4, 0, 5] rfl ?_
            refine J_LS [(0, .ref 1), (1, .int a1), (2, .int a2), (3, .int a3), (4, .int v28), (5, .int v26)] [] rfl rfl ?_
            refine J_goto (pc := 90) (tgt := 48) dX1_roomOf_90 (by decide) ?_
            exact ih _ _ h
set_option maxHeartbeats 4000000 in
set_option maxRecDepth 100000 in
theorem k_X1_roomOf {E : En} (a1 : Int32) (a2 : Int32) (M : Wd) {r : Int32} (h : F_X1_roomOf a1 a2 M = some r) : Con E mi_X1_roomOf [.ref 1, .int a1, .int a2] M (.inl (some (.int r))) M := by
  unfold F_X1_roomOf at h
  refine Con.of (by decide) rfl (Nat.le_of_ble_eq_true rfl) (fun κ => ?_)
  show J κ E mi_X1_roomOf _ 0 0 [(0, .ref 1), (1, .int a1), (2, .int a2)] M 0 []
  refine J_aload_n (pc := 0) dX1_roomOf_0 rfl 0 rfl ?_
  refine J_iload_n (pc := 1) dX1_roomOf_1 rfl 1 rfl ?_
  refine J_callV (g := mi_X1_hasCar) (ci := 1) (pc := 2) [.int a1] [] mv_X1_hasCar w_227 (k_X1_hasCar  a1 _) rfl (by decide) rfl rfl rfl ⟨⟨Nat.le_of_ble_eq_true rfl, Nat.le_of_ble_eq_true rfl⟩, Nat.le_of_ble_eq_true rfl, Nat.le_of_ble_eq_true rfl⟩ (Nat.le_of_ble_eq_true rfl) dX1_roomOf_2 (Jk_v rfl rfl fun hok1 => ?_)
  refine J_if_ne (pc := 5) (tgt := 10) dX1_roomOf_5 (by decide) (fun c2 => ?_) (fun c2 => ?_)
  · replace h := ifn c2 h
    refine J_aload_n (pc := 10) dX1_roomOf_10 rfl 0 rfl ?_
    obtain ⟨v3, hc4, h⟩ := obind_e h
    refine J_callV (g := mi_X1_takenCells) (ci := 1) (pc := 11) [] [] mv_X1_takenCells w_231 (k_X1_takenCells  _ hc4) rfl (by decide) rfl rfl rfl ⟨⟨Nat.le_of_ble_eq_true rfl, Nat.le_of_ble_eq_true rfl⟩, Nat.le_of_ble_eq_true rfl, Nat.le_of_ble_eq_true rfl⟩ (Nat.le_of_ble_eq_true rfl) dX1_roomOf_11 (Jk_v rfl rfl fun hok5 => ?_)
    refine J_istore_n (pc := 14) dX1_roomOf_14 rfl (Nat.le_of_ble_eq_true rfl) [1, 2, 3, 0] rfl ?_
    refine J_iload_n (pc := 15) dX1_roomOf_15 rfl 2 rfl ?_
    obtain ⟨v6, hv17, h⟩ := obind_e h
    refine J_join [(0, .ref 1), (1, .int a1), (2, .int a2), (3, .int v3)] M 43 [.int v6] ?_ (fun hJ => ?_)
    · refine J_istore (pc := 43) dX1_roomOf_43 (Nat.le_of_ble_eq_true rfl) [1, 2, 3, 4, 0] rfl ?_
      refine J_iconst (v := (0 : Int32)) (pc := 45) dX1_roomOf_45 (by decide) ?_
      refine J_istore (pc := 46) dX1_roomOf_46 (Nat.le_of_ble_eq_true rfl) [1, 2, 3, 4, 5, 0] rfl ?_
      refine J_LS [(0, .ref 1), (1, .int a1), (2, .int a2), (3, .int v3), (4, .int v6), (5, .int (0 : Int32))] [] rfl rfl ?_
      refine kL_X1_roomOf_L48 _ _ _ _ _ (fun v30 h => ?_) fuelN _ _ h
      refine J_iload (pc := 93) dX1_roomOf_93 0 rfl ?_
      cases h
      exact J_ireturn dX1_roomOf_95 rfl rfl rfl rfl rfl
    · replace h := hv17
      refine J_if_le (pc := 16) (tgt := 35) dX1_roomOf_16 (by decide) (fun c7 => ?_) (fun c7 => ?_)
      · replace h := ifp c7 h
        refine J_aload_n (pc := 35) dX1_roomOf_35 rfl 0 rfl ?_
        refine get_1_1 (pc := 36) w_50 dX1_roomOf_36 ?_
        refine J_iload_n (pc := 39) dX1_roomOf_39 rfl 1 rfl ?_
        obtain ⟨v8, e9, hk10, h⟩ := ldi_e h
        refine J_iald (c := 3) (N := 6) (pc := 40) ja_3 (Nat.le_of_ble_eq_true rfl) hk10 dX1_roomOf_40 ?_
        refine J_topi e9 ?_
        refine J_iconst (v := (1 : Int32)) (pc := 41) dX1_roomOf_41 (by decide) ?_
        refine J_isub (pc := 42) dX1_roomOf_42 ?_
        cases h
        exact hJ
      · replace h := ifn c7 h
        refine J_aload_n (pc := 19) dX1_roomOf_19 rfl 0 rfl ?_
        refine get_1_1 (pc := 20) w_50 dX1_roomOf_20 ?_
        refine J_iload_n (pc := 23) dX1_roomOf_23 rfl 1 rfl ?_
        obtain ⟨v11, e12, hk13, h⟩ := ldi_e h
        refine J_iald (c := 3) (N := 6) (pc := 24) ja_3 (Nat.le_of_ble_eq_true rfl) hk13 dX1_roomOf_24 ?_
        refine J_topi e12 ?_
        refine J_aload_n (pc := 25) dX1_roomOf_25 rfl 0 rfl ?_
        refine get_1_2 (pc := 26) w_53 dX1_roomOf_26 ?_
        refine J_iload_n (pc := 29) dX1_roomOf_29 rfl 1 rfl ?_
        obtain ⟨v14, e15, hk16, h⟩ := ldi_e h
        refine J_iald (c := 4) (N := 6) (pc := 30) ja_4 (Nat.le_of_ble_eq_true rfl) hk16 dX1_roomOf_30 ?_
        refine J_topi e15 ?_
        refine J_iadd (pc := 31) dX1_roomOf_31 ?_
        refine J_goto (pc := 32) (tgt := 43) dX1_roomOf_32 (by decide) ?_
        cases h
        exact hJ
  · replace h := ifp c2 h
    refine J_iconst (v := (0 : Int32)) (pc := 8) dX1_roomOf_8 (by decide) ?_
    cases h
    exact J_ireturn dX1_roomOf_9 rfl rfl rfl rfl rfl
set_option maxHeartbeats 4000000 in
set_option maxRecDepth 100000 in
theorem k_X1_troubleOfEntering {E : En} (a1 : Int32) (a2 : Int32) (a3 : Int32) (M : Wd) {r : Int32} (h : F_X1_troubleOfEntering a1 a2 a3 M = some r) : Con E mi_X1_troubleOfEntering [.ref 1, .int a1, .int a2, .int a3] M (.inl (some (.int r))) M := by
  unfold F_X1_troubleOfEntering at h
  refine Con.of (by decide) rfl (Nat.le_of_ble_eq_true rfl) (fun κ => ?_)
  show J κ E mi_X1_troubleOfEntering _ 0 0 [(0, .ref 1), (1, .int a1), (2, .int a2), (3, .int a3)] M 0 []
  refine J_iload_n (pc := 0) dX1_troubleOfEntering_0 rfl 1 rfl ?_
  refine J_if_lt (pc := 1) (tgt := 10) dX1_troubleOfEntering_1 (by decide) (fun c1 => ?_) (fun c1 => ?_)
  · replace h := ifp c1 h
    refine J_iconst (v := (1 : Int32)) (pc := 10) dX1_troubleOfEntering_10 (by decide) ?_
    cases h
    exact J_ireturn dX1_troubleOfEntering_11 rfl rfl rfl rfl rfl
  · replace h := ifn c1 h
    refine J_iload_n (pc := 4) dX1_troubleOfEntering_4 rfl 1 rfl ?_
    refine J_bipush (v := (10 : Int32)) (pc := 5) dX1_troubleOfEntering_5 (by decide) ?_
    refine J_icmp_lt (pc := 7) (tgt := 12) dX1_troubleOfEntering_7 (by decide) (fun c2 => ?_) (fun c2 => ?_)
    · replace h := ifp c2 h
      refine J_iload_n (pc := 12) dX1_troubleOfEntering_12 rfl 3 rfl ?_
      refine J_iconst (v := (2 : Int32)) (pc := 13) dX1_troubleOfEntering_13 (by decide) ?_
      refine J_icmp_lt (pc := 14) (tgt := 33) dX1_troubleOfEntering_14 (by decide) (fun c3 => ?_) (fun c3 => ?_)
      · replace h := ifp c3 h
        refine J_iconst (v := (2 : Int32)) (pc := 33) dX1_troubleOfEntering_33 (by decide) ?_
        cases h
        exact J_ireturn dX1_troubleOfEntering_34 rfl rfl rfl rfl rfl
      · replace h := ifn c3 h
        refine J_iload_n (pc := 17) dX1_troubleOfEntering_17 rfl 3 rfl ?_
        refine J_iconst (v := (3 : Int32)) (pc := 18) dX1_troubleOfEntering_18 (by decide) ?_
        refine J_icmp_gt (pc := 19) (tgt := 33) dX1_troubleOfEntering_19 (by decide) (fun c4 => ?_) (fun c4 => ?_)
        · replace h := ifp c4 h
          refine J_iconst (v := (2 : Int32)) (pc := 33) dX1_troubleOfEntering_33 (by decide) ?_
          cases h
          exact J_ireturn dX1_troubleOfEntering_34 rfl rfl rfl rfl rfl
        · replace h := ifn c4 h
          refine J_iload_n (pc := 22) dX1_troubleOfEntering_22 rfl 2 rfl ?_
          refine J_if_lt (pc := 23) (tgt := 33) dX1_troubleOfEntering_23 (by decide) (fun c5 => ?_) (fun c5 => ?_)
          · replace h := ifp c5 h
            refine J_iconst (v := (2 : Int32)) (pc := 33) dX1_troubleOfEntering_33 (by decide) ?_
            cases h
            exact J_ireturn dX1_troubleOfEntering_34 rfl rfl rfl rfl rfl
          · replace h := ifn c5 h
            refine J_iload_n (pc := 26) dX1_troubleOfEntering_26 rfl 2 rfl ?_
            refine J_iconst (v := (5 : Int32)) (pc := 27) dX1_troubleOfEntering_27 (by decide) ?_
            refine J_iload_n (pc := 28) dX1_troubleOfEntering_28 rfl 3 rfl ?_
            refine J_isub (pc := 29) dX1_troubleOfEntering_29 ?_
            refine J_icmp_le (pc := 30) (tgt := 35) dX1_troubleOfEntering_30 (by decide) (fun c6 => ?_) (fun c6 => ?_)
            · replace h := ifp c6 h
              refine J_aload_n (pc := 35) dX1_troubleOfEntering_35 rfl 0 rfl ?_
              refine get_1_5 (pc := 36) w_60 dX1_troubleOfEntering_36 ?_
              obtain ⟨v7, e8, h⟩ := bnd_e h
              have hb11 : isB v7 := by rw [e8]; repeat (first | exact Or.inl rfl | exact Or.inr rfl | assumption | exact okB_b (by assumption) | apply isB_ite)
              refine J_join [(0, .ref 1), (1, .int a1), (2, .int a2), (3, .int a3)] M 52 [.int v7] ?_ (fun hJ => ?_)
              · refine J_istore (pc := 52) dX1_troubleOfEntering_52 (Nat.le_of_ble_eq_true rfl) [1, 2, 3, 4, 0] rfl ?_
                refine J_aload_n (pc := 54) dX1_troubleOfEntering_54 rfl 0 rfl ?_
                obtain ⟨v12, hc13, h⟩ := obind_e h
                refine J_callV (g := mi_X1_takenCells) (ci := 1) (pc := 55) [] [] mv_X1_takenCells w_231 (k_X1_takenCells  _ hc13) rfl (by decide) rfl rfl rfl ⟨⟨Nat.le_of_ble_eq_true rfl, Nat.le_of_ble_eq_true rfl⟩, Nat.le_of_ble_eq_true rfl, Nat.le_of_ble_eq_true rfl⟩ (Nat.le_of_ble_eq_true rfl) dX1_troubleOfEntering_55 (Jk_v rfl rfl fun hok14 => ?_)
                refine J_iload_n (pc := 58) dX1_troubleOfEntering_58 rfl 1 rfl ?_
                refine J_iload_n (pc := 59) dX1_troubleOfEntering_59 rfl 2 rfl ?_
                refine J_iload_n (pc := 60) dX1_troubleOfEntering_60 rfl 3 rfl ?_
                refine J_callSN (g := mi_X3_cellsOf) (pc := 61) [.int a1, .int a2, .int a3] [.int v12] ms_X3_cellsOf w_207 (k_X3_cellsOf  a1 a2 a3 _) rfl rfl ⟨⟨Nat.le_of_ble_eq_true rfl, Nat.le_of_ble_eq_true rfl⟩, Nat.le_of_ble_eq_true rfl, Nat.le_of_ble_eq_true rfl⟩ (Nat.le_of_ble_eq_true rfl) dX1_troubleOfEntering_61 (Jk_v rfl rfl fun hok15 => ?_)
                refine J_iand (pc := 64) dX1_troubleOfEntering_64 ?_
                obtain ⟨v16, e17, h⟩ := bnd_e h
                have hb19 : isB v16 := by rw [e17]; repeat (first | exact Or.inl rfl | exact Or.inr rfl | assumption | exact okB_b (by assumption) | apply isB_ite)
                refine J_join [(0, .ref 1), (4, .int v7)] M 73 [.int v16] ?_ (fun hJ => ?_)
                · refine J_istore (pc := 73) dX1_troubleOfEntering_73 (Nat.le_of_ble_eq_true rfl) [1, 2, 0] rfl ?_
                  refine J_aload_n (pc := 75) dX1_troubleOfEntering_75 rfl 0 rfl ?_
                  refine get_1_5 (pc := 76) w_60 dX1_troubleOfEntering_76 ?_
                  refine J_bipush (v := (6 : Int32)) (pc := 79) dX1_troubleOfEntering_79 (by decide) ?_
                  refine J_icmp_ge (pc := 81) (tgt := 94) dX1_troubleOfEntering_81 (by decide) (fun c20 => ?_) (fun c20 => ?_)
                  · replace h := ifp c20 h
                    refine J_iconst (v := (3 : Int32)) (pc := 94) dX1_troubleOfEntering_94 (by decide) ?_
                    refine J_goto (pc := 95) (tgt := 99) dX1_troubleOfEntering_95 (by decide) ?_
                    cases h
                    exact J_ireturn dX1_troubleOfEntering_99 rfl rfl rfl rfl rfl
                  · replace h := ifn c20 h
                    refine J_iload (pc := 84) dX1_troubleOfEntering_84 2 rfl ?_
                    refine J_if_eq (pc := 86) (tgt := 94) dX1_troubleOfEntering_86 (by decide) (fun c21 => ?_) (fun c21 => ?_)
                    · replace h := ifp c21 h
                      refine J_iconst (v := (3 : Int32)) (pc := 94) dX1_troubleOfEntering_94 (by decide) ?_
                      refine J_goto (pc := 95) (tgt := 99) dX1_troubleOfEntering_95 (by decide) ?_
                      cases h
                      exact J_ireturn dX1_troubleOfEntering_99 rfl rfl rfl rfl rfl
                    · replace h := ifn c21 h
                      refine J_iload (pc := 89) dX1_troubleOfEntering_89 1 rfl ?_
                      refine J_if_eq (pc := 91) (tgt := 98) dX1_troubleOfEntering_91 (by decide) (fun c22 => ?_) (fun c22 => ?_)
                      · replace h := ifp c22 h
                        refine J_iconst (v := (0 : Int32)) (pc := 98) dX1_troubleOfEntering_98 (by decide) ?_
                        cases h
                        exact J_ireturn dX1_troubleOfEntering_99 rfl rfl rfl rfl rfl
                      · replace h := ifn c22 h
                        refine J_iconst (v := (3 : Int32)) (pc := 94) dX1_troubleOfEntering_94 (by decide) ?_
                        refine J_goto (pc := 95) (tgt := 99) dX1_troubleOfEntering_95 (by decide) ?_
                        cases h
                        exact J_ireturn dX1_troubleOfEntering_99 rfl rfl rfl rfl rfl
                · refine J_if_ne (pc := 65) (tgt := 72) dX1_troubleOfEntering_65 (by decide) (fun c18 => ?_) (fun c18 => ?_)
                  · refine J_iconst (v := (0 : Int32)) (pc := 72) dX1_troubleOfEntering_72 (by decide) ?_
                    refine J_sub [0, 4] rfl ?_
                    refine J_topi (y := v16) (by rw [e17, if_neg c18]) ?_
                    exact hJ
                  · refine J_iconst (v := (1 : Int32)) (pc := 68) dX1_troubleOfEntering_68 (by decide) ?_
                    refine J_goto (pc := 69) (tgt := 73) dX1_troubleOfEntering_69 (by decide) ?_
                    refine J_sub [0, 4] rfl ?_
                    refine J_topi (y := v16) (by rw [e17, if_pos c18]) ?_
                    exact hJ
              · refine J_if_ne (pc := 39) (tgt := 51) dX1_troubleOfEntering_39 (by decide) (fun c9 => ?_) (fun c9 => ?_)
                · refine J_iconst (v := (0 : Int32)) (pc := 51) dX1_troubleOfEntering_51 (by decide) ?_
                  refine J_topi (y := v7) (by rw [e8, if_neg c9]) ?_
                  exact hJ
                · refine J_iload_n (pc := 42) dX1_troubleOfEntering_42 rfl 1 rfl ?_
                  refine J_iconst (v := (5 : Int32)) (pc := 43) dX1_troubleOfEntering_43 (by decide) ?_
                  refine J_icmp_lt (pc := 44) (tgt := 51) dX1_troubleOfEntering_44 (by decide) (fun c10 => ?_) (fun c10 => ?_)
                  · refine J_iconst (v := (0 : Int32)) (pc := 51) dX1_troubleOfEntering_51 (by decide) ?_
                    refine J_topi (y := v7) (by rw [e8, if_pos c9, if_pos c10]) ?_
                    exact hJ
                  · refine J_iconst (v := (1 : Int32)) (pc := 47) dX1_troubleOfEntering_47 (by decide) ?_
                    refine J_goto (pc := 48) (tgt := 52) dX1_troubleOfEntering_48 (by decide) ?_
                    refine J_topi (y := v7) (by rw [e8, if_pos c9, if_neg c10]) ?_
                    exact hJ
            · replace h := ifn c6 h
              refine J_iconst (v := (2 : Int32)) (pc := 33) dX1_troubleOfEntering_33 (by decide) ?_
              cases h
              exact J_ireturn dX1_troubleOfEntering_34 rfl rfl rfl rfl rfl
    · replace h := ifn c2 h
      refine J_iconst (v := (1 : Int32)) (pc := 10) dX1_troubleOfEntering_10 (by decide) ?_
      cases h
      exact J_ireturn dX1_troubleOfEntering_11 rfl rfl rfl rfl rfl

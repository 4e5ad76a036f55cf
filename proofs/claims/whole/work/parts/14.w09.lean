/-! ===== walks of the methods, 9 ===== -/
set_option maxHeartbeats 4000000 in
set_option maxRecDepth 100000 in
theorem k_X4_thrown {E : En} (M : Wd) : Con E mi_X4_thrown [.ref 53] M (.inl (some (.int (F_X4_thrown M)))) M := by
  obtain ⟨r, h⟩ : ∃ r, F_X4_thrown M = r := ⟨_, rfl⟩
  rw [h]
  unfold F_X4_thrown at h
  refine Con.of (by decide) rfl (Nat.le_of_ble_eq_true rfl) (fun κ => ?_)
  show J κ E mi_X4_thrown _ 0 0 [(0, .ref 53)] M 0 []
  refine J_aload_n (pc := 0) dX4_thrown_0 rfl 0 rfl ?_
  refine get_53_0 (pc := 1) w_1023 dX4_thrown_1 ?_
  subst h
  exact J_ireturn dX4_thrown_4 rfl rfl rfl rfl rfl
set_option maxHeartbeats 4000000 in
set_option maxRecDepth 100000 in
theorem k_X4_refused {E : En} (a1 : Int32) (M : Wd) {r : Int32} {M' : Wd} (h : F_X4_refused a1 M = some (r, M')) : Con E mi_X4_refused [.ref 53, .int a1] M (.inl (some (.int r))) M' := by
  unfold F_X4_refused at h
  refine Con.of (by decide) rfl (Nat.le_of_ble_eq_true rfl) (fun κ => ?_)
  show J κ E mi_X4_refused _ 0 0 [(0, .ref 53), (1, .int a1)] M 0 []
  refine J_aload_n (pc := 0) dX4_refused_0 rfl 0 rfl ?_
  refine J_iload_n (pc := 1) dX4_refused_1 rfl 1 rfl ?_
  refine put_53_0 (pc := 2) w_1023 dX4_refused_2 ?_
  refine J_iload_n (pc := 5) dX4_refused_5 rfl 1 rfl ?_
  refine J_if_le (pc := 6) (tgt := 13) dX4_refused_6 (by decide) (fun c1 => ?_) (fun c1 => ?_)
  · replace h := ifp c1 h
    refine J_iconst (v := (0 : Int32)) (pc := 13) dX4_refused_13 (by decide) ?_
    cases h
    exact J_zreturn dX4_refused_14 rfl (Or.inl rfl) rfl rfl rfl rfl
  · replace h := ifn c1 h
    refine J_iconst (v := (1 : Int32)) (pc := 9) dX4_refused_9 (by decide) ?_
    refine J_goto (pc := 10) (tgt := 14) dX4_refused_10 (by decide) ?_
    cases h
    exact J_zreturn dX4_refused_14 rfl (Or.inr rfl) rfl rfl rfl rfl
set_option maxHeartbeats 4000000 in
set_option maxRecDepth 100000 in
theorem k_X4_in {E : En} (a0 : Int64) (a2 : Int64) (a4 : Int64) (M : Wd) : Con E mi_X4_in [.long a0, .long a2, .long a4] M (.inl (some (.int (F_X4_in a0 a2 a4)))) M := by
  obtain ⟨r, h⟩ : ∃ r, F_X4_in a0 a2 a4 = r := ⟨_, rfl⟩
  rw [h]
  unfold F_X4_in at h
  refine Con.of (by decide) rfl (Nat.le_of_ble_eq_true rfl) (fun κ => ?_)
  show J κ E mi_X4_in _ 0 0 [(0, .long a0), (2, .long a2), (4, .long a4)] M 0 []
  refine J_lload_n (pc := 0) dX4_in_0 rfl 0 rfl ?_
  refine J_lload_n (pc := 1) dX4_in_1 rfl 1 rfl ?_
  refine J_lcmp (pc := 2) dX4_in_2 ?_
  refine J_if_lt (pc := 3) (tgt := 17) dX4_in_3 (by decide) (fun c1 => ?_) (fun c1 => ?_)
  · replace h := ifp c1 h
    refine J_iconst (v := (0 : Int32)) (pc := 17) dX4_in_17 (by decide) ?_
    subst h
    exact J_zreturn dX4_in_18 rfl (Or.inl rfl) rfl rfl rfl rfl
  · replace h := ifn c1 h
    refine J_lload_n (pc := 6) dX4_in_6 rfl 0 rfl ?_
    refine J_lload (pc := 7) dX4_in_7 2 rfl ?_
    refine J_lcmp (pc := 9) dX4_in_9 ?_
    refine J_if_gt (pc := 10) (tgt := 17) dX4_in_10 (by decide) (fun c2 => ?_) (fun c2 => ?_)
    · replace h := ifp c2 h
      refine J_iconst (v := (0 : Int32)) (pc := 17) dX4_in_17 (by decide) ?_
      subst h
      exact J_zreturn dX4_in_18 rfl (Or.inl rfl) rfl rfl rfl rfl
    · replace h := ifn c2 h
      refine J_iconst (v := (1 : Int32)) (pc := 13) dX4_in_13 (by decide) ?_
      refine J_goto (pc := 14) (tgt := 18) dX4_in_14 (by decide) ?_
      subst h
      exact J_zreturn dX4_in_18 rfl (Or.inr rfl) rfl rfl rfl rfl
set_option maxHeartbeats 4000000 in
set_option maxRecDepth 100000 in
theorem kL_X4_copyState_55_56_L3 {κ : Kx} {E : En} {Q : State → Prop} {ρ : Type} {r : ρ} (a1 : Int32) (a3 : Int32) (K28 : Wd → Option ρ) (hK28 : ∀ (M : Wd), K28 M = some r → J κ E mi_X4_copyState Q 0 0 [] M 28 []) : ∀ (m : Nat) (x4 : Int32) (M : Wd), F_X4_copyState_55_56_L3 a1 a3 K28 m x4 M = some r → J κ E mi_X4_copyState Q 0 0 [(0, .ref 55), (1, .int a1), (2, .ref 56), (3, .int a3), (4, .int x4)] M 3 [] := by
  intro m
  induction m with
  | zero => intro x4 M h; exact (nomatch (show (none : Option ρ) = some r from h))
  | succ m ih =>
    intro x4 M h
    unfold F_X4_copyState_55_56_L3 at h
    refine J_iload (pc := 3) dX4_copyState_3 4 rfl ?_
    refine J_bipush (v := (82 : Int32)) (pc := 5) dX4_copyState_5 (by decide) ?_
    refine J_icmp_ge (pc := 7) (tgt := 28) dX4_copyState_7 (by decide) (fun c1 => ?_) (fun c1 => ?_)
    · replace h := ifp c1 h
      refine J_sub [] rfl ?_
      exact hK28 _ h
    · replace h := ifn c1 h
      refine J_aload_n (pc := 10) dX4_copyState_10 rfl 2 rfl ?_
      refine J_iload_n (pc := 11) dX4_copyState_11 rfl 3 rfl ?_
      refine J_iload (pc := 12) dX4_copyState_12 4 rfl ?_
      refine J_iadd (pc := 14) dX4_copyState_14 ?_
      refine J_aload_n (pc := 15) dX4_copyState_15 rfl 0 rfl ?_
      refine J_iload_n (pc := 16) dX4_copyState_16 rfl 1 rfl ?_
      refine J_iload (pc := 17) dX4_copyState_17 4 rfl ?_
      refine J_iadd (pc := 19) dX4_copyState_19 ?_
      obtain ⟨v2, e3, hk4, h⟩ := ldi_e h
      refine J_iald (c := 55) (N := 82) (pc := 20) ja_55 (Nat.le_of_ble_eq_true rfl) hk4 dX4_copyState_20 ?_
      refine J_topi e3 ?_
      obtain ⟨hk5, h⟩ := inb_e h
      refine J_iast (c := 56) (N := 410) (pc := 21) (fun _ => ja_56) (Nat.le_of_ble_eq_true rfl) hk5 dX4_copyState_21 ?_
      obtain ⟨v6, e7, h⟩ := bnd_e h
      refine J_iinc (v := v6) (pc := 22) dX4_copyState_22 4 rfl (by rw [e7]; rfl) (Nat.le_of_ble_eq_true rfl) [1, 2, 3, 4, 0] rfl ?_
      refine J_goto (pc := 25) (tgt := 3) dX4_copyState_25 (by decide) ?_
      exact ih _ _ h
set_option maxHeartbeats 4000000 in
set_option maxRecDepth 100000 in
theorem k_X4_copyState_55_56 {E : En} (a1 : Int32) (a3 : Int32) (M : Wd) {M' : Wd} (h : F_X4_copyState_55_56 a1 a3 M = some M') : Con E mi_X4_copyState [.ref 55, .int a1, .ref 56, .int a3] M (.inl none) M' := by
  unfold F_X4_copyState_55_56 at h
  refine Con.of (by decide) rfl (Nat.le_of_ble_eq_true rfl) (fun κ => ?_)
  show J κ E mi_X4_copyState _ 0 0 [(0, .ref 55), (1, .int a1), (2, .ref 56), (3, .int a3)] M 0 []
  refine J_iconst (v := (0 : Int32)) (pc := 0) dX4_copyState_0 (by decide) ?_
  refine J_istore (pc := 1) dX4_copyState_1 (Nat.le_of_ble_eq_true rfl) [1, 2, 3, 4, 0] rfl ?_
  refine kL_X4_copyState_55_56_L3 _ _ _ (fun M8 h => ?_) fuelN _ _ h
  cases h
  exact J_return dX4_copyState_28 rfl rfl rfl rfl rfl
set_option maxHeartbeats 4000000 in
set_option maxRecDepth 100000 in
theorem kL_X4_copyState_56_55_L3 {κ : Kx} {E : En} {Q : State → Prop} {ρ : Type} {r : ρ} (a1 : Int32) (a3 : Int32) (K28 : Wd → Option ρ) (hK28 : ∀ (M : Wd), K28 M = some r → J κ E mi_X4_copyState Q 0 0 [] M 28 []) : ∀ (m : Nat) (x4 : Int32) (M : Wd), F_X4_copyState_56_55_L3 a1 a3 K28 m x4 M = some r → J κ E mi_X4_copyState Q 0 0 [(0, .ref 56), (1, .int a1), (2, .ref 55), (3, .int a3), (4, .int x4)] M 3 [] := by
  intro m
  induction m with
  | zero => intro x4 M h; exact (nomatch (show (none : Option ρ) = some r from h))
  | succ m ih =>
    intro x4 M h
    unfold F_X4_copyState_56_55_L3 at h
    refine J_iload (pc := 3) dX4_copyState_3 4 rfl ?_
    refine J_bipush (v := (82 : Int32)) (pc := 5) dX4_copyState_5 (by decide) ?_
    refine J_icmp_ge (pc := 7) (tgt := 28) dX4_copyState_7 (by decide) (fun c1 => ?_) (fun c1 => ?_)
    · replace h := ifp c1 h
      refine J_sub [] rfl ?_
      exact hK28 _ h
    · replace h := ifn c1 h
      refine J_aload_n (pc := 10) dX4_copyState_10 rfl 2 rfl ?_
      refine J_iload_n (pc := 11) dX4_copyState_11 rfl 3 rfl ?_
      refine J_iload (pc := 12) dX4_copyState_12 4 rfl ?_
      refine J_iadd (pc := 14) dX4_copyState_14 ?_
      refine J_aload_n (pc := 15) dX4_copyState_15 rfl 0 rfl ?_
      refine J_iload_n (pc := 16) dX4_copyState_16 rfl 1 rfl ?_
      refine J_iload (pc := 17) dX4_copyState_17 4 rfl ?_
      refine J_iadd (pc := 19) dX4_copyState_19 ?_
      obtain ⟨v2, e3, hk4, h⟩ := ldi_e h
      refine J_iald (c := 56) (N := 410) (pc := 20) ja_56 (Nat.le_of_ble_eq_true rfl) hk4 dX4_copyState_20 ?_
      refine J_topi e3 ?_
      obtain ⟨hk5, h⟩ := inb_e h
      refine J_iast (c := 55) (N := 82) (pc := 21) (fun _ => ja_55) (Nat.le_of_ble_eq_true rfl) hk5 dX4_copyState_21 ?_
      obtain ⟨v6, e7, h⟩ := bnd_e h
      refine J_iinc (v := v6) (pc := 22) dX4_copyState_22 4 rfl (by rw [e7]; rfl) (Nat.le_of_ble_eq_true rfl) [1, 2, 3, 4, 0] rfl ?_
      refine J_goto (pc := 25) (tgt := 3) dX4_copyState_25 (by decide) ?_
      exact ih _ _ h
set_option maxHeartbeats 4000000 in
set_option maxRecDepth 100000 in
theorem k_X4_copyState_56_55 {E : En} (a1 : Int32) (a3 : Int32) (M : Wd) {M' : Wd} (h : F_X4_copyState_56_55 a1 a3 M = some M') : Con E mi_X4_copyState [.ref 56, .int a1, .ref 55, .int a3] M (.inl none) M' := by
  unfold F_X4_copyState_56_55 at h
  refine Con.of (by decide) rfl (Nat.le_of_ble_eq_true rfl) (fun κ => ?_)
  show J κ E mi_X4_copyState _ 0 0 [(0, .ref 56), (1, .int a1), (2, .ref 55), (3, .int a3)] M 0 []
  refine J_iconst (v := (0 : Int32)) (pc := 0) dX4_copyState_0 (by decide) ?_
  refine J_istore (pc := 1) dX4_copyState_1 (Nat.le_of_ble_eq_true rfl) [1, 2, 3, 4, 0] rfl ?_
  refine kL_X4_copyState_56_55_L3 _ _ _ (fun M8 h => ?_) fuelN _ _ h
  cases h
  exact J_return dX4_copyState_28 rfl rfl rfl rfl rfl
set_option maxHeartbeats 4000000 in
set_option maxRecDepth 100000 in
theorem kL_X4_copyState_55_57_L3 {κ : Kx} {E : En} {Q : State → Prop} {ρ : Type} {r : ρ} (a1 : Int32) (a3 : Int32) (K28 : Wd → Option ρ) (hK28 : ∀ (M : Wd), K28 M = some r → J κ E mi_X4_copyState Q 0 0 [] M 28 []) : ∀ (m : Nat) (x4 : Int32) (M : Wd), F_X4_copyState_55_57_L3 a1 a3 K28 m x4 M = some r → J κ E mi_X4_copyState Q 0 0 [(0, .ref 55), (1, .int a1), (2, .ref 57), (3, .int a3), (4, .int x4)] M 3 [] := by
  intro m
  induction m with
  | zero => intro x4 M h; exact (nomatch (show (none : Option ρ) = some r from h))
  | succ m ih =>
    intro x4 M h
    unfold F_X4_copyState_55_57_L3 at h
    refine J_iload (pc := 3) dX4_copyState_3 4 rfl ?_
    refine J_bipush (v := (82 : Int32)) (pc := 5) dX4_copyState_5 (by decide) ?_
    refine J_icmp_ge (pc := 7) (tgt := 28) dX4_copyState_7 (by decide) (fun c1 => ?_) (fun c1 => ?_)
    · replace h := ifp c1 h
      refine J_sub [] rfl ?_
      exact hK28 _ h
    · replace h := ifn c1 h
      refine J_aload_n (pc := 10) dX4_copyState_10 rfl 2 rfl ?_
      refine J_iload_n (pc := 11) dX4_copyState_11 rfl 3 rfl ?_
      refine J_iload (pc := 12) dX4_copyState_12 4 rfl ?_
      refine J_iadd (pc := 14) dX4_copyState_14 ?_
      refine J_aload_n (pc := 15) dX4_copyState_15 rfl 0 rfl ?_
      refine J_iload_n (pc := 16) dX4_copyState_16 rfl 1 rfl ?_
      refine J_iload (pc := 17) dX4_copyState_17 4 rfl ?_
      refine J_iadd (pc := 19) dX4_copyState_19 ?_
      obtain ⟨v2, e3, hk4, h⟩ := ldi_e h
      refine J_iald (c := 55) (N := 82) (pc := 20) ja_55 (Nat.le_of_ble_eq_true rfl) hk4 dX4_copyState_20 ?_
      refine J_topi e3 ?_
      obtain ⟨hk5, h⟩ := inb_e h
      refine J_iast (c := 57) (N := 82) (pc := 21) (fun _ => ja_57) (Nat.le_of_ble_eq_true rfl) hk5 dX4_copyState_21 ?_
      obtain ⟨v6, e7, h⟩ := bnd_e h
      refine J_iinc (v := v6) (pc := 22) dX4_copyState_22 4 rfl (by rw [e7]; rfl) (Nat.le_of_ble_eq_true rfl) [1, 2, 3, 4, 0] rfl ?_
      refine J_goto (pc := 25) (tgt := 3) dX4_copyState_25 (by decide) ?_
      exact ih _ _ h
set_option maxHeartbeats 4000000 in
set_option maxRecDepth 100000 in
theorem k_X4_copyState_55_57 {E : En} (a1 : Int32) (a3 : Int32) (M : Wd) {M' : Wd} (h : F_X4_copyState_55_57 a1 a3 M = some M') : Con E mi_X4_copyState [.ref 55, .int a1, .ref 57, .int a3] M (.inl none) M' := by
  unfold F_X4_copyState_55_57 at h
  refine Con.of (by decide) rfl (Nat.le_of_ble_eq_true rfl) (fun κ => ?_)
  show J κ E mi_X4_copyState _ 0 0 [(0, .ref 55), (1, .int a1), (2, .ref 57), (3, .int a3)] M 0 []
  refine J_iconst (v := (0 : Int32)) (pc := 0) dX4_copyState_0 (by decide) ?_
  refine J_istore (pc := 1) dX4_copyState_1 (Nat.le_of_ble_eq_true rfl) [1, 2, 3, 4, 0] rfl ?_
  refine kL_X4_copyState_55_57_L3 _ _ _ (fun M8 h => ?_) fuelN _ _ h
  cases h
  exact J_return dX4_copyState_28 rfl rfl rfl rfl rfl
set_option maxHeartbeats 4000000 in
set_option maxRecDepth 100000 in
theorem kL_X4_copyState_57_55_L3 {κ : Kx} {E : En} {Q : State → Prop} {ρ : Type} {r : ρ} (a1 : Int32) (a3 : Int32) (K28 : Wd → Option ρ) (hK28 : ∀ (M : Wd), K28 M = some r → J κ E mi_X4_copyState Q 0 0 [] M 28 []) : ∀ (m : Nat) (x4 : Int32) (M : Wd), F_X4_copyState_57_55_L3 a1 a3 K28 m x4 M = some r → J κ E mi_X4_copyState Q 0 0 [(0, .ref 57), (1, .int a1), (2, .ref 55), (3, .int a3), (4, .int x4)] M 3 [] := by
  intro m
  induction m with
  | zero => intro x4 M h; exact (nomatch (show (none : Option ρ) = some r from h))
  | succ m ih =>
    intro x4 M h
    unfold F_X4_copyState_57_55_L3 at h
    refine J_iload (pc := 3) dX4_copyState_3 4 rfl ?_
    refine J_bipush (v := (82 : Int32)) (pc := 5) dX4_copyState_5 (by decide) ?_
    refine J_icmp_ge (pc := 7) (tgt := 28) dX4_copyState_7 (by decide) (fun c1 => ?_) (fun c1 => ?_)
    · replace h := ifp c1 h
      refine J_sub [] rfl ?_
      exact hK28 _ h
    · replace h := ifn c1 h
      refine J_aload_n (pc := 10) dX4_copyState_10 rfl 2 rfl ?_
      refine J_iload_n (pc := 11) dX4_copyState_11 rfl 3 rfl ?_
      refine J_iload (pc := 12) dX4_copyState_12 4 rfl ?_
      refine J_iadd (pc := 14) dX4_copyState_14 ?_
      refine J_aload_n (pc := 15) dX4_copyState_15 rfl 0 rfl ?_
      refine J_iload_n (pc := 16) dX4_copyState_16 rfl 1 rfl ?_
      refine J_iload (pc := 17) dX4_copyState_17 4 rfl ?_
      refine J_iadd (pc := 19) dX4_copyState_19 ?_
      obtain ⟨v2, e3, hk4, h⟩ := ldi_e h
      refine J_iald (c := 57) (N := 82) (pc := 20) ja_57 (Nat.le_of_ble_eq_true rfl) hk4 dX4_copyState_20 ?_
      refine J_topi e3 ?_
      obtain ⟨hk5, h⟩ := inb_e h
      refine J_iast (c := 55) (N := 82) (pc := 21) (fun _ => ja_55) (Nat.le_of_ble_eq_true rfl) hk5 dX4_copyState_21 ?_
      obtain ⟨v6, e7, h⟩ := bnd_e h
      refine J_iinc (v := v6) (pc := 22) dX4_copyState_22 4 rfl (by rw [e7]; rfl) (Nat.le_of_ble_eq_true rfl) [1, 2, 3, 4, 0] rfl ?_
      refine J_goto (pc := 25) (tgt := 3) dX4_copyState_25 (by decide) ?_
      exact ih _ _ h
set_option maxHeartbeats 4000000 in
set_option maxRecDepth 100000 in
theorem k_X4_copyState_57_55 {E : En} (a1 : Int32) (a3 : Int32) (M : Wd) {M' : Wd} (h : F_X4_copyState_57_55 a1 a3 M = some M') : Con E mi_X4_copyState [.ref 57, .int a1, .ref 55, .int a3] M (.inl none) M' := by
  unfold F_X4_copyState_57_55 at h
  refine Con.of (by decide) rfl (Nat.le_of_ble_eq_true rfl) (fun κ => ?_)
  show J κ E mi_X4_copyState _ 0 0 [(0, .ref 57), (1, .int a1), (2, .ref 55), (3, .int a3)] M 0 []
  refine J_iconst (v := (0 : Int32)) (pc := 0) dX4_copyState_0 (by decide) ?_
  refine J_istore (pc := 1) dX4_copyState_1 (Nat.le_of_ble_eq_true rfl) [1, 2, 3, 4, 0] rfl ?_
  refine kL_X4_copyState_57_55_L3 _ _ _ (fun M8 h => ?_) fuelN _ _ h
  cases h
  exact J_return dX4_copyState_28 rfl rfl rfl rfl rfl
set_option maxHeartbeats 4000000 in
set_option maxRecDepth 100000 in
theorem kL_X4_bits_L4 {κ : Kx} {E : En} {Q : State → Prop} {ρ : Type} {r : ρ} (M : Wd) (K20 : Int32 → Option ρ) (hK20 : ∀ (x1 : Int32), K20 x1 = some r → J κ E mi_X4_bits Q 0 0 [(1, .int x1)] M 20 []) : ∀ (m : Nat) (x1 : Int32) (x2 : Int32), F_X4_bits_L4 K20 m x1 x2 = some r → J κ E mi_X4_bits Q 0 0 [(1, .int x1), (2, .int x2)] M 4 [] := by
  intro m
  induction m with
  | zero => intro x1 x2 h; exact (nomatch (show (none : Option ρ) = some r from h))
  | succ m ih =>
    intro x1 x2 h
    unfold F_X4_bits_L4 at h
    refine J_iload_n (pc := 4) dX4_bits_4 rfl 1 rfl ?_
    refine J_if_eq (pc := 5) (tgt := 20) dX4_bits_5 (by decide) (fun c1 => ?_) (fun c1 => ?_)
    · replace h := ifp c1 h
      refine J_sub [0] rfl ?_
      exact hK20 _ h
    · replace h := ifn c1 h
      obtain ⟨v2, e3, h⟩ := bnd_e h
      refine J_iinc (v := v2) (pc := 8) dX4_bits_8 0 rfl (by rw [e3]; rfl) (Nat.le_of_ble_eq_true rfl) [0, 1] rfl ?_
      refine J_iload_n (pc := 11) dX4_bits_11 rfl 1 rfl ?_
      refine J_iload_n (pc := 12) dX4_bits_12 rfl 1 rfl ?_
      refine J_iconst (v := (1 : Int32)) (pc := 13) dX4_bits_13 (by decide) ?_
      refine J_isub (pc := 14) dX4_bits_14 ?_
      refine J_iand (pc := 15) dX4_bits_15 ?_
      obtain ⟨v4, e5, h⟩ := bnd_e h
      refine J_topi e5 ?_
      refine J_istore_n (pc := 16) dX4_bits_16 rfl (Nat.le_of_ble_eq_true rfl) [1, 0] rfl ?_
      refine J_LS [(1, .int v2), (2, .int v4)] [] rfl rfl ?_
      refine J_goto (pc := 17) (tgt := 4) dX4_bits_17 (by decide) ?_
      exact ih _ _ h
set_option maxHeartbeats 4000000 in
set_option maxRecDepth 100000 in
theorem k_X4_bits {E : En} (a0 : Int32) (M : Wd) {r : Int32} (h : F_X4_bits a0 = some r) : Con E mi_X4_bits [.int a0] M (.inl (some (.int r))) M := by
  unfold F_X4_bits at h
  refine Con.of (by decide) rfl (Nat.le_of_ble_eq_true rfl) (fun κ => ?_)
  show J κ E mi_X4_bits _ 0 0 [(0, .int a0)] M 0 []
  refine J_iconst (v := (0 : Int32)) (pc := 0) dX4_bits_0 (by decide) ?_
  refine J_istore_n (pc := 1) dX4_bits_1 rfl (Nat.le_of_ble_eq_true rfl) [1, 0] rfl ?_
  refine J_iload_n (pc := 2) dX4_bits_2 rfl 0 rfl ?_
  refine J_istore_n (pc := 3) dX4_bits_3 rfl (Nat.le_of_ble_eq_true rfl) [1, 2, 0] rfl ?_
  refine J_LS [(0, .int a0), (1, .int (0 : Int32)), (2, .int a0)] [] rfl rfl ?_
  refine J_sub [1, 2] rfl ?_
  refine kL_X4_bits_L4 _ _ (fun v6 h => ?_) fuelN _ _ h
  refine J_iload_n (pc := 20) dX4_bits_20 rfl 0 rfl ?_
  cases h
  exact J_ireturn dX4_bits_21 rfl rfl rfl rfl rfl
set_option maxHeartbeats 4000000 in
set_option maxRecDepth 100000 in
theorem kL_X4_cells_L5 {κ : Kx} {E : En} {Q : State → Prop} {ρ : Type} {r : ρ} (a0 : Int32) (a1 : Int32) (a2 : Int32) (M : Wd) (K46 : Int32 → Option ρ) (hK46 : ∀ (x3 : Int32), K46 x3 = some r → J κ E mi_X4_cells Q 0 0 [(3, .int x3)] M 46 []) : ∀ (m : Nat) (x3 : Int32) (x4 : Int32), F_X4_cells_L5 a0 a1 a2 K46 m x3 x4 = some r → J κ E mi_X4_cells Q 0 0 [(0, .int a0), (1, .int a1), (2, .int a2), (3, .int x3), (4, .int x4)] M 5 [] := by
  intro m
  induction m with
  | zero => intro x3 x4 h; exact (nomatch (show (none : Option ρ) = some r from h))
  | succ m ih =>
    intro x3 x4 h
    unfold F_X4_cells_L5 at h
    refine J_iload (pc := 5) dX4_cells_5 4 rfl ?_
    refine J_iload_n (pc := 7) dX4_cells_7 rfl 1 rfl ?_
    refine J_iload_n (pc := 8) dX4_cells_8 rfl 2 rfl ?_
    refine J_iadd (pc := 9) dX4_cells_9 ?_
    refine J_icmp_ge (pc := 10) (tgt := 46) dX4_cells_10 (by decide) (fun c1 => ?_) (fun c1 => ?_)
    · replace h := ifp c1 h
      refine J_sub [3] rfl ?_
      exact hK46 _ h
    · replace h := ifn c1 h
      refine J_iload_n (pc := 13) dX4_cells_13 rfl 3 rfl ?_
      refine J_iconst (v := (1 : Int32)) (pc := 14) dX4_cells_14 (by decide) ?_
      refine J_iload_n (pc := 15) dX4_cells_15 rfl 0 rfl ?_
      refine J_iconst (v := (5 : Int32)) (pc := 16) dX4_cells_16 (by decide) ?_
      obtain ⟨v2, e3, h⟩ := bnd_e h
      refine J_join [(0, .int a0), (1, .int a1), (2, .int a2), (4, .int x4)] M 37 [.int v2, .int (1 : Int32), .int x3] ?_ (fun hJ => ?_)
      · refine J_ishl (pc := 37) dX4_cells_37 ?_
        refine J_ior (pc := 38) dX4_cells_38 ?_
        obtain ⟨v5, e6, h⟩ := bnd_e h
        refine J_topi e6 ?_
        refine J_istore_n (pc := 39) dX4_cells_39 rfl (Nat.le_of_ble_eq_true rfl) [1, 2, 3, 0, 4] rfl ?_
        obtain ⟨v7, e8, h⟩ := bnd_e h
        refine J_iinc (v := v7) (pc := 40) dX4_cells_40 4 rfl (by rw [e8]; rfl) (Nat.le_of_ble_eq_true rfl) [1, 2, 3, 4, 0] rfl ?_
        refine J_LS [(0, .int a0), (1, .int a1), (2, .int a2), (3, .int v5), (4, .int v7)] [] rfl rfl ?_
        refine J_goto (pc := 43) (tgt := 5) dX4_cells_43 (by decide) ?_
        exact ih _ _ h
      · refine J_icmp_ge (pc := 17) (tgt := 29) dX4_cells_17 (by decide) (fun c4 => ?_) (fun c4 => ?_)
        · refine J_iconst (v := (5 : Int32)) (pc := 29) dX4_cells_29 (by decide) ?_
          refine J_iload (pc := 30) dX4_cells_30 4 rfl ?_
          refine J_imul (pc := 32) dX4_cells_32 ?_
          refine J_iload_n (pc := 33) dX4_cells_33 rfl 0 rfl ?_
          refine J_iadd (pc := 34) dX4_cells_34 ?_
          refine J_iconst (v := (5 : Int32)) (pc := 35) dX4_cells_35 (by decide) ?_
          refine J_isub (pc := 36) dX4_cells_36 ?_
          refine J_sub [0, 1, 2, 4] rfl ?_
          refine J_topi (y := v2) (by rw [e3, if_pos c4]) ?_
          exact hJ
        · refine J_iconst (v := (5 : Int32)) (pc := 20) dX4_cells_20 (by decide) ?_
          refine J_iload_n (pc := 21) dX4_cells_21 rfl 0 rfl ?_
          refine J_imul (pc := 22) dX4_cells_22 ?_
          refine J_iload (pc := 23) dX4_cells_23 4 rfl ?_
          refine J_iadd (pc := 25) dX4_cells_25 ?_
          refine J_goto (pc := 26) (tgt := 37) dX4_cells_26 (by decide) ?_
          refine J_sub [0, 1, 2, 4] rfl ?_
          refine J_topi (y := v2) (by rw [e3, if_neg c4]) ?_
          exact hJ
set_option maxHeartbeats 4000000 in
set_option maxRecDepth 100000 in
theorem k_X4_cells {E : En} (a0 : Int32) (a1 : Int32) (a2 : Int32) (M : Wd) {r : Int32} (h : F_X4_cells a0 a1 a2 = some r) : Con E mi_X4_cells [.int a0, .int a1, .int a2] M (.inl (some (.int r))) M := by
  unfold F_X4_cells at h
  refine Con.of (by decide) rfl (Nat.le_of_ble_eq_true rfl) (fun κ => ?_)
  show J κ E mi_X4_cells _ 0 0 [(0, .int a0), (1, .int a1), (2, .int a2)] M 0 []
  refine J_iconst (v := (0 : Int32)) (pc := 0) dX4_cells_0 (by decide) ?_
  refine J_istore_n (pc := 1) dX4_cells_1 rfl (Nat.le_of_ble_eq_true rfl) [1, 2, 3, 0] rfl ?_
  refine J_iload_n (pc := 2) dX4_cells_2 rfl 1 rfl ?_
  refine J_istore (pc := 3) dX4_cells_3 (Nat.le_of_ble_eq_true rfl) [1, 2, 3, 4, 0] rfl ?_
  refine J_LS [(0, .int a0), (1, .int a1), (2, .int a2), (3, .int (0 : Int32)), (4, .int a1)] [] rfl rfl ?_
  refine kL_X4_cells_L5 _ _ _ _ _ (fun v9 h => ?_) fuelN _ _ h
  refine J_iload_n (pc := 46) dX4_cells_46 rfl 0 rfl ?_
  cases h
  exact J_ireturn dX4_cells_47 rfl rfl rfl rfl rfl
set_option maxHeartbeats 4000000 in
set_option maxRecDepth 100000 in
theorem k_X4_cellsOf {E : En} (a1 : Int32) (M : Wd) {r : Int32} (h : F_X4_cellsOf a1 M = some r) : Con E mi_X4_cellsOf [.ref 53, .int a1] M (.inl (some (.int r))) M := by
  unfold F_X4_cellsOf at h
  refine Con.of (by decide) rfl (Nat.le_of_ble_eq_true rfl) (fun κ => ?_)
  show J κ E mi_X4_cellsOf _ 0 0 [(0, .ref 53), (1, .int a1)] M 0 []
  refine J_aload_n (pc := 0) dX4_cellsOf_0 rfl 0 rfl ?_
  refine get_53_3 (pc := 1) w_1026 dX4_cellsOf_1 ?_
  refine J_iconst (v := (1 : Int32)) (pc := 4) dX4_cellsOf_4 (by decide) ?_
  refine J_iload_n (pc := 5) dX4_cellsOf_5 rfl 1 rfl ?_
  refine J_iadd (pc := 6) dX4_cellsOf_6 ?_
  obtain ⟨v1, e2, hk3, h⟩ := ldi_e h
  refine J_iald (c := 55) (N := 82) (pc := 7) ja_55 (Nat.le_of_ble_eq_true rfl) hk3 dX4_cellsOf_7 ?_
  refine J_topi e2 ?_
  refine J_aload_n (pc := 8) dX4_cellsOf_8 rfl 0 rfl ?_
  refine get_53_3 (pc := 9) w_1026 dX4_cellsOf_9 ?_
  refine J_bipush (v := (7 : Int32)) (pc := 12) dX4_cellsOf_12 (by decide) ?_
  refine J_iload_n (pc := 14) dX4_cellsOf_14 rfl 1 rfl ?_
  refine J_iadd (pc := 15) dX4_cellsOf_15 ?_
  obtain ⟨v4, e5, hk6, h⟩ := ldi_e h
  refine J_iald (c := 55) (N := 82) (pc := 16) ja_55 (Nat.le_of_ble_eq_true rfl) hk6 dX4_cellsOf_16 ?_
  refine J_topi e5 ?_
  refine J_aload_n (pc := 17) dX4_cellsOf_17 rfl 0 rfl ?_
  refine get_53_3 (pc := 18) w_1026 dX4_cellsOf_18 ?_
  refine J_bipush (v := (13 : Int32)) (pc := 21) dX4_cellsOf_21 (by decide) ?_
  refine J_iload_n (pc := 23) dX4_cellsOf_23 rfl 1 rfl ?_
  refine J_iadd (pc := 24) dX4_cellsOf_24 ?_
  obtain ⟨v7, e8, hk9, h⟩ := ldi_e h
  refine J_iald (c := 55) (N := 82) (pc := 25) ja_55 (Nat.le_of_ble_eq_true rfl) hk9 dX4_cellsOf_25 ?_
  refine J_topi e8 ?_
  obtain ⟨v10, hc11, h⟩ := obind_e h
  refine J_callS (g := mi_X4_cells) (pc := 26) [.int v1, .int v4, .int v7] [] ms_X4_cells w_1109 (k_X4_cells v1 v4 v7 _ hc11) rfl rfl ⟨⟨Nat.le_of_ble_eq_true rfl, Nat.le_of_ble_eq_true rfl⟩, Nat.le_of_ble_eq_true rfl, Nat.le_of_ble_eq_true rfl⟩ (Nat.le_of_ble_eq_true rfl) dX4_cellsOf_26 (Jk_v rfl rfl fun hok12 => ?_)
  cases h
  exact J_ireturn dX4_cellsOf_29 rfl rfl rfl rfl rfl
set_option maxHeartbeats 4000000 in
set_option maxRecDepth 100000 in
theorem kL_X4_occupied_L10 {κ : Kx} {E : En} {Q : State → Prop} {ρ : Type} {r : ρ} (M : Wd) (K34 : Int32 → Option ρ) (hK34 : ∀ (x1 : Int32), K34 x1 = some r → J κ E mi_X4_occupied Q 0 0 [(1, .int x1)] M 34 []) : ∀ (m : Nat) (x1 : Int32) (x2 : Int32), F_X4_occupied_L10 M K34 m x1 x2 = some r → J κ E mi_X4_occupied Q 0 0 [(0, .ref 53), (1, .int x1), (2, .int x2)] M 10 [] := by
  intro m
  induction m with
  | zero => intro x1 x2 h; exact (nomatch (show (none : Option ρ) = some r from h))
  | succ m ih =>
    intro x1 x2 h
    unfold F_X4_occupied_L10 at h
    refine J_iload_n (pc := 10) dX4_occupied_10 rfl 2 rfl ?_
    refine J_aload_n (pc := 11) dX4_occupied_11 rfl 0 rfl ?_
    refine get_53_3 (pc := 12) w_1026 dX4_occupied_12 ?_
    refine J_iconst (v := (0 : Int32)) (pc := 15) dX4_occupied_15 (by decide) ?_
    refine J_iald (c := 55) (N := 82) (pc := 16) ja_55 (Nat.le_of_ble_eq_true rfl) (vpc rfl) dX4_occupied_16 ?_
    refine J_topi (x := M.1 55 (Int32.toNatClampNeg 0)) (y := (M.1 55 0)) (Eq.symm (a := M.1 55 (Int32.toNatClampNeg 0)) (show M.1 55 0 = (M.1 55 0) from rfl)) ?_
    refine J_icmp_ge (pc := 17) (tgt := 34) dX4_occupied_17 (by decide) (fun c3 => ?_) (fun c3 => ?_)
    · replace h := ifp c3 h
      refine J_sub [1] rfl ?_
      exact hK34 _ h
    · replace h := ifn c3 h
      refine J_iload_n (pc := 20) dX4_occupied_20 rfl 1 rfl ?_
      refine J_aload_n (pc := 21) dX4_occupied_21 rfl 0 rfl ?_
      refine J_iload_n (pc := 22) dX4_occupied_22 rfl 2 rfl ?_
      obtain ⟨v4, hc5, h⟩ := obind_e h
      refine J_callV (g := mi_X4_cellsOf) (ci := 4) (pc := 23) [.int x2] [.int x1] mv_X4_cellsOf w_1116 (k_X4_cellsOf x2 _ hc5) rfl (by decide) rfl rfl rfl ⟨⟨Nat.le_of_ble_eq_true rfl, Nat.le_of_ble_eq_true rfl⟩, Nat.le_of_ble_eq_true rfl, Nat.le_of_ble_eq_true rfl⟩ (Nat.le_of_ble_eq_true rfl) dX4_occupied_23 (Jk_v rfl rfl fun hok6 => ?_)
      refine J_ior (pc := 26) dX4_occupied_26 ?_
      obtain ⟨v7, e8, h⟩ := bnd_e h
      refine J_topi e8 ?_
      refine J_istore_n (pc := 27) dX4_occupied_27 rfl (Nat.le_of_ble_eq_true rfl) [1, 0, 2] rfl ?_
      obtain ⟨v9, e10, h⟩ := bnd_e h
      refine J_iinc (v := v9) (pc := 28) dX4_occupied_28 2 rfl (by rw [e10]; rfl) (Nat.le_of_ble_eq_true rfl) [1, 2, 0] rfl ?_
      refine J_LS [(0, .ref 53), (1, .int v7), (2, .int v9)] [] rfl rfl ?_
      refine J_goto (pc := 31) (tgt := 10) dX4_occupied_31 (by decide) ?_
      exact ih _ _ h
set_option maxHeartbeats 4000000 in
set_option maxRecDepth 100000 in
theorem k_X4_occupied {E : En} (M : Wd) {r : Int32} (h : F_X4_occupied M = some r) : Con E mi_X4_occupied [.ref 53] M (.inl (some (.int r))) M := by
  unfold F_X4_occupied at h
  refine Con.of (by decide) rfl (Nat.le_of_ble_eq_true rfl) (fun κ => ?_)
  show J κ E mi_X4_occupied _ 0 0 [(0, .ref 53)] M 0 []
  refine J_aload_n (pc := 0) dX4_occupied_0 rfl 0 rfl ?_
  refine get_53_3 (pc := 1) w_1026 dX4_occupied_1 ?_
  refine J_bipush (v := (19 : Int32)) (pc := 4) dX4_occupied_4 (by decide) ?_
  refine J_iald (c := 55) (N := 82) (pc := 6) ja_55 (Nat.le_of_ble_eq_true rfl) (vpc rfl) dX4_occupied_6 ?_
  refine J_topi (x := M.1 55 (Int32.toNatClampNeg 19)) (y := (M.1 55 19)) (Eq.symm (a := M.1 55 (Int32.toNatClampNeg 19)) (show M.1 55 19 = (M.1 55 19) from rfl)) ?_
  obtain ⟨v1, e2, h⟩ := bnd_e h
  refine J_topi e2 ?_
  refine J_istore_n (pc := 7) dX4_occupied_7 rfl (Nat.le_of_ble_eq_true rfl) [1, 0] rfl ?_
  refine J_iconst (v := (0 : Int32)) (pc := 8) dX4_occupied_8 (by decide) ?_
  refine J_istore_n (pc := 9) dX4_occupied_9 rfl (Nat.le_of_ble_eq_true rfl) [1, 2, 0] rfl ?_
  refine J_LS [(0, .ref 53), (1, .int v1), (2, .int (0 : Int32))] [] rfl rfl ?_
  refine kL_X4_occupied_L10 _ _ (fun v11 h => ?_) fuelN _ _ h
  refine J_iload_n (pc := 34) dX4_occupied_34 rfl 0 rfl ?_
  cases h
  exact J_ireturn dX4_occupied_35 rfl rfl rfl rfl rfl
set_option maxHeartbeats 4000000 in
set_option maxRecDepth 100000 in
theorem k_X4_isCar {E : En} (a1 : Int32) (M : Wd) : Con E mi_X4_isCar [.ref 53, .int a1] M (.inl (some (.int (F_X4_isCar a1 M)))) M := by
  obtain ⟨r, h⟩ : ∃ r, F_X4_isCar a1 M = r := ⟨_, rfl⟩
  rw [h]
  unfold F_X4_isCar at h
  refine Con.of (by decide) rfl (Nat.le_of_ble_eq_true rfl) (fun κ => ?_)
  show J κ E mi_X4_isCar _ 0 0 [(0, .ref 53), (1, .int a1)] M 0 []
  refine J_iload_n (pc := 0) dX4_isCar_0 rfl 1 rfl ?_
  refine J_i2l (pc := 1) dX4_isCar_1 ?_
  refine J_lconst (v := (0 : Int64)) (pc := 2) dX4_isCar_2 (by decide) ?_
  refine J_aload_n (pc := 3) dX4_isCar_3 rfl 0 rfl ?_
  refine get_53_3 (pc := 4) w_1026 dX4_isCar_4 ?_
  refine J_iconst (v := (0 : Int32)) (pc := 7) dX4_isCar_7 (by decide) ?_
  refine J_iald (c := 55) (N := 82) (pc := 8) ja_55 (Nat.le_of_ble_eq_true rfl) (vpc rfl) dX4_isCar_8 ?_
  refine J_topi (x := M.1 55 (Int32.toNatClampNeg 0)) (y := (M.1 55 0)) (Eq.symm (a := M.1 55 (Int32.toNatClampNeg 0)) (show M.1 55 0 = (M.1 55 0) from rfl)) ?_
  refine J_iconst (v := (1 : Int32)) (pc := 9) dX4_isCar_9 (by decide) ?_
  refine J_isub (pc := 10) dX4_isCar_10 ?_
  refine J_i2l (pc := 11) dX4_isCar_11 ?_
  refine J_callS (g := mi_X4_in) (pc := 12) [.long a1.toInt64, .long (0 : Int64), .long ((M.1 55 0) - (1 : Int32)).toInt64] [] ms_X4_in w_1104 (k_X4_in a1.toInt64 (0 : Int64) ((M.1 55 0) - (1 : Int32)).toInt64 _) rfl rfl ⟨⟨Nat.le_of_ble_eq_true rfl, Nat.le_of_ble_eq_true rfl⟩, Nat.le_of_ble_eq_true rfl, Nat.le_of_ble_eq_true rfl⟩ (Nat.le_of_ble_eq_true rfl) dX4_isCar_12 (Jk_v rfl rfl fun hok1 => ?_)
  subst h
  exact J_zreturn dX4_isCar_15 rfl (okB_b hok1) rfl rfl rfl rfl
set_option maxHeartbeats 4000000 in
set_option maxRecDepth 100000 in
theorem k_X4_isCell {E : En} (a0 : Int32) (M : Wd) : Con E mi_X4_isCell [.int a0] M (.inl (some (.int (F_X4_isCell a0)))) M := by
  obtain ⟨r, h⟩ : ∃ r, F_X4_isCell a0 = r := ⟨_, rfl⟩
  rw [h]
  unfold F_X4_isCell at h
  refine Con.of (by decide) rfl (Nat.le_of_ble_eq_true rfl) (fun κ => ?_)
  show J κ E mi_X4_isCell _ 0 0 [(0, .int a0)] M 0 []
  refine J_iload_n (pc := 0) dX4_isCell_0 rfl 0 rfl ?_
  refine J_i2l (pc := 1) dX4_isCell_1 ?_
  refine J_lconst (v := (0 : Int64)) (pc := 2) dX4_isCell_2 (by decide) ?_
  refine J_ldc2 (pc := 3) w_1146 dX4_isCell_3 ?_
  refine J_callS (g := mi_X4_in) (pc := 6) [.long a0.toInt64, .long (0 : Int64), .long (24 : Int64)] [] ms_X4_in w_1104 (k_X4_in a0.toInt64 (0 : Int64) (24 : Int64) _) rfl rfl ⟨⟨Nat.le_of_ble_eq_true rfl, Nat.le_of_ble_eq_true rfl⟩, Nat.le_of_ble_eq_true rfl, Nat.le_of_ble_eq_true rfl⟩ (Nat.le_of_ble_eq_true rfl) dX4_isCell_6 (Jk_v rfl rfl fun hok1 => ?_)
  subst h
  exact J_zreturn dX4_isCell_9 rfl (okB_b hok1) rfl rfl rfl rfl
set_option maxHeartbeats 4000000 in
set_option maxRecDepth 100000 in
theorem kL_X4_space_L19 {κ : Kx} {E : En} {Q : State → Prop} {ρ : Type} {r : ρ} (a1 : Int32) (a2 : Int32) (a3 : Int32) (M : Wd) (K122 : Int32 → Option ρ) (hK122 : ∀ (x4 : Int32), K122 x4 = some r → J κ E mi_X4_space Q 0 0 [(4, .int x4)] M 122 []) : ∀ (m : Nat) (x4 : Int32) (x5 : Int32), F_X4_space_L19 a1 a2 a3 M K122 m x4 x5 = some r → J κ E mi_X4_space Q 0 0 [(0, .ref 53), (1, .int a1), (2, .int a2), (3, .int a3), (4, .int x4), (5, .int x5)] M 19 [] := by
  intro m
  induction m with
  | zero => intro x4 x5 h; exact (nomatch (show (none : Option ρ) = some r from h))
  | succ m ih =>
    intro x4 x5 h
    unfold F_X4_space_L19 at h
    refine J_iload (pc := 19) dX4_space_19 5 rfl ?_
    refine J_if_eq (pc := 21) (tgt := 122) dX4_space_21 (by decide) (fun c9 => ?_) (fun c9 => ?_)
    · replace h := ifp c9 h
      refine J_sub [4] rfl ?_
      exact hK122 _ h
    · replace h := ifn c9 h
      refine J_aload_n (pc := 24) dX4_space_24 rfl 0 rfl ?_
      refine get_53_3 (pc := 25) w_1026 dX4_space_25 ?_
      refine J_bipush (v := (7 : Int32)) (pc := 28) dX4_space_28 (by decide) ?_
      refine J_iload_n (pc := 30) dX4_space_30 rfl 1 rfl ?_
      refine J_iadd (pc := 31) dX4_space_31 ?_
      obtain ⟨v10, e11, hk12, h⟩ := ldi_e h
      refine J_iald (c := 55) (N := 82) (pc := 32) ja_55 (Nat.le_of_ble_eq_true rfl) hk12 dX4_space_32 ?_
      refine J_topi e11 ?_
      refine J_iload_n (pc := 33) dX4_space_33 rfl 2 rfl ?_
      refine J_iload (pc := 34) dX4_space_34 4 rfl ?_
      refine J_iconst (v := (1 : Int32)) (pc := 36) dX4_space_36 (by decide) ?_
      refine J_iadd (pc := 37) dX4_space_37 ?_
      refine J_imul (pc := 38) dX4_space_38 ?_
      refine J_iadd (pc := 39) dX4_space_39 ?_
      obtain ⟨v13, e14, h⟩ := bnd_e h
      refine J_topi e14 ?_
      refine J_istore (pc := 40) dX4_space_40 (Nat.le_of_ble_eq_true rfl) [1, 2, 3, 4, 5, 6, 0] rfl ?_
      refine J_iload (pc := 42) dX4_space_42 4 rfl ?_
      refine J_iconst (v := (3 : Int32)) (pc := 44) dX4_space_44 (by decide) ?_
      obtain ⟨v15, hv32, h⟩ := obind_e h
      refine J_join [(0, .ref 53), (1, .int a1), (2, .int a2), (3, .int a3), (4, .int x4)] M 102 [.int v15] ?_ (fun hJ => ?_)
      · refine J_istore (pc := 102) dX4_space_102 (Nat.le_of_ble_eq_true rfl) [1, 2, 3, 4, 5, 0] rfl ?_
        refine J_iload (pc := 104) dX4_space_104 4 rfl ?_
        refine J_iload (pc := 106) dX4_space_106 5 rfl ?_
        obtain ⟨v33, e34, h⟩ := bnd_e h
        have hb36 : isB v33 := by rw [e34]; repeat (first | exact Or.inl rfl | exact Or.inr rfl | assumption | exact okB_b (by assumption) | apply isB_ite)
        refine J_join [(0, .ref 53), (1, .int a1), (2, .int a2), (3, .int a3), (5, .int v15)] M 116 [.int v33, .int x4] ?_ (fun hJ => ?_)
        · refine J_iadd (pc := 116) dX4_space_116 ?_
          obtain ⟨v37, e38, h⟩ := bnd_e h
          refine J_topi e38 ?_
          refine J_istore (pc := 117) dX4_space_117 (Nat.le_of_ble_eq_true rfl) [1, 2, 3, 4, 0, 5] rfl ?_
          refine J_goto (pc := 119) (tgt := 19) dX4_space_119 (by decide) ?_
          exact ih _ _ h
        · refine J_if_eq (pc := 108) (tgt := 115) dX4_space_108 (by decide) (fun c35 => ?_) (fun c35 => ?_)
          · refine J_iconst (v := (0 : Int32)) (pc := 115) dX4_space_115 (by decide) ?_
            refine J_sub [0, 1, 2, 3, 5] rfl ?_
            refine J_topi (y := v33) (by rw [e34, if_pos c35]) ?_
            exact hJ
          · refine J_iconst (v := (1 : Int32)) (pc := 111) dX4_space_111 (by decide) ?_
            refine J_goto (pc := 112) (tgt := 116) dX4_space_112 (by decide) ?_
            refine J_sub [0, 1, 2, 3, 5] rfl ?_
            refine J_topi (y := v33) (by rw [e34, if_neg c35]) ?_
            exact hJ
      · replace h := hv32
        refine J_icmp_ge (pc := 45) (tgt := 101) dX4_space_45 (by decide) (fun c16 => ?_) (fun c16 => ?_)
        · replace h := ifp c16 h
          refine J_iconst (v := (0 : Int32)) (pc := 101) dX4_space_101 (by decide) ?_
          cases h
          refine J_sub [0, 1, 2, 3, 4] rfl ?_
          exact hJ
        · replace h := ifn c16 h
          refine J_iload (pc := 48) dX4_space_48 6 rfl ?_
          refine J_i2l (pc := 50) dX4_space_50 ?_
          refine J_lconst (v := (0 : Int64)) (pc := 51) dX4_space_51 (by decide) ?_
          refine J_iconst (v := (5 : Int32)) (pc := 52) dX4_space_52 (by decide) ?_
          refine J_aload_n (pc := 53) dX4_space_53 rfl 0 rfl ?_
          refine get_53_3 (pc := 54) w_1026 dX4_space_54 ?_
          refine J_bipush (v := (13 : Int32)) (pc := 57) dX4_space_57 (by decide) ?_
          refine J_iload_n (pc := 59) dX4_space_59 rfl 1 rfl ?_
          refine J_iadd (pc := 60) dX4_space_60 ?_
          obtain ⟨v17, e18, hk19, h⟩ := ldi_e h
          refine J_iald (c := 55) (N := 82) (pc := 61) ja_55 (Nat.le_of_ble_eq_true rfl) hk19 dX4_space_61 ?_
          refine J_topi e18 ?_
          refine J_isub (pc := 62) dX4_space_62 ?_
          refine J_i2l (pc := 63) dX4_space_63 ?_
          refine J_callS (g := mi_X4_in) (pc := 64) [.long v13.toInt64, .long (0 : Int64), .long ((5 : Int32) - v17).toInt64] [] ms_X4_in w_1104 (k_X4_in v13.toInt64 (0 : Int64) ((5 : Int32) - v17).toInt64 _) rfl rfl ⟨⟨Nat.le_of_ble_eq_true rfl, Nat.le_of_ble_eq_true rfl⟩, Nat.le_of_ble_eq_true rfl, Nat.le_of_ble_eq_true rfl⟩ (Nat.le_of_ble_eq_true rfl) dX4_space_64 (Jk_v rfl rfl fun hok20 => ?_)
          refine J_if_eq (pc := 67) (tgt := 101) dX4_space_67 (by decide) (fun c21 => ?_) (fun c21 => ?_)
          · replace h := ifp c21 h
            refine J_iconst (v := (0 : Int32)) (pc := 101) dX4_space_101 (by decide) ?_
            cases h
            refine J_sub [0, 1, 2, 3, 4] rfl ?_
            exact hJ
          · replace h := ifn c21 h
            refine J_aload_n (pc := 70) dX4_space_70 rfl 0 rfl ?_
            refine get_53_3 (pc := 71) w_1026 dX4_space_71 ?_
            refine J_iconst (v := (1 : Int32)) (pc := 74) dX4_space_74 (by decide) ?_
            refine J_iload_n (pc := 75) dX4_space_75 rfl 1 rfl ?_
            refine J_iadd (pc := 76) dX4_space_76 ?_
            obtain ⟨v22, e23, hk24, h⟩ := ldi_e h
            refine J_iald (c := 55) (N := 82) (pc := 77) ja_55 (Nat.le_of_ble_eq_true rfl) hk24 dX4_space_77 ?_
            refine J_topi e23 ?_
            refine J_iload (pc := 78) dX4_space_78 6 rfl ?_
            refine J_aload_n (pc := 80) dX4_space_80 rfl 0 rfl ?_
            refine get_53_3 (pc := 81) w_1026 dX4_space_81 ?_
            refine J_bipush (v := (13 : Int32)) (pc := 84) dX4_space_84 (by decide) ?_
            refine J_iload_n (pc := 86) dX4_space_86 rfl 1 rfl ?_
            refine J_iadd (pc := 87) dX4_space_87 ?_
            obtain ⟨v25, e26, hk27, h⟩ := ldi_e h
            refine J_iald (c := 55) (N := 82) (pc := 88) ja_55 (Nat.le_of_ble_eq_true rfl) hk27 dX4_space_88 ?_
            refine J_topi e26 ?_
            obtain ⟨v28, hc29, h⟩ := obind_e h
            refine J_callS (g := mi_X4_cells) (pc := 89) [.int v22, .int v13, .int v25] [] ms_X4_cells w_1109 (k_X4_cells v22 v13 v25 _ hc29) rfl rfl ⟨⟨Nat.le_of_ble_eq_true rfl, Nat.le_of_ble_eq_true rfl⟩, Nat.le_of_ble_eq_true rfl, Nat.le_of_ble_eq_true rfl⟩ (Nat.le_of_ble_eq_true rfl) dX4_space_89 (Jk_v rfl rfl fun hok30 => ?_)
            refine J_iload_n (pc := 92) dX4_space_92 rfl 3 rfl ?_
            refine J_iand (pc := 93) dX4_space_93 ?_
            refine J_if_ne (pc := 94) (tgt := 101) dX4_space_94 (by decide) (fun c31 => ?_) (fun c31 => ?_)
            · replace h := ifn c31 h
              refine J_iconst (v := (0 : Int32)) (pc := 101) dX4_space_101 (by decide) ?_
              cases h
              refine J_sub [0, 1, 2, 3, 4] rfl ?_
              exact hJ
            · replace h := ifp c31 h
              refine J_iconst (v := (1 : Int32)) (pc := 97) dX4_space_97 (by decide) ?_
              refine J_goto (pc := 98) (tgt := 102) dX4_space_98 (by decide) ?_
              cases h
              refine J_sub [0, 1, 2, 3, 4] rfl ?_
              exact hJ
set_option maxHeartbeats 4000000 in
set_option maxRecDepth 100000 in
theorem k_X4_space {E : En} (a1 : Int32) (a2 : Int32) (M : Wd) {r : Int32} (h : F_X4_space a1 a2 M = some r) : Con E mi_X4_space [.ref 53, .int a1, .int a2] M (.inl (some (.int r))) M := by
  unfold F_X4_space at h
  refine Con.of (by decide) rfl (Nat.le_of_ble_eq_true rfl) (fun κ => ?_)
  show J κ E mi_X4_space _ 0 0 [(0, .ref 53), (1, .int a1), (2, .int a2)] M 0 []
  refine J_aload_n (pc := 0) dX4_space_0 rfl 0 rfl ?_
  obtain ⟨v1, hc2, h⟩ := obind_e h
  refine J_callV (g := mi_X4_occupied) (ci := 4) (pc := 1) [] [] mv_X4_occupied w_1112 (k_X4_occupied _ hc2) rfl (by decide) rfl rfl rfl ⟨⟨Nat.le_of_ble_eq_true rfl, Nat.le_of_ble_eq_true rfl⟩, Nat.le_of_ble_eq_true rfl, Nat.le_of_ble_eq_true rfl⟩ (Nat.le_of_ble_eq_true rfl) dX4_space_1 (Jk_v rfl rfl fun hok3 => ?_)
  refine J_aload_n (pc := 4) dX4_space_4 rfl 0 rfl ?_
  refine J_iload_n (pc := 5) dX4_space_5 rfl 1 rfl ?_
  obtain ⟨v4, hc5, h⟩ := obind_e h
  refine J_callV (g := mi_X4_cellsOf) (ci := 4) (pc := 6) [.int a1] [.int v1] mv_X4_cellsOf w_1116 (k_X4_cellsOf a1 _ hc5) rfl (by decide) rfl rfl rfl ⟨⟨Nat.le_of_ble_eq_true rfl, Nat.le_of_ble_eq_true rfl⟩, Nat.le_of_ble_eq_true rfl, Nat.le_of_ble_eq_true rfl⟩ (Nat.le_of_ble_eq_true rfl) dX4_space_6 (Jk_v rfl rfl fun hok6 => ?_)
  refine J_iconst (v := (-1 : Int32)) (pc := 9) dX4_space_9 (by decide) ?_
  refine J_ixor (pc := 10) dX4_space_10 ?_
  refine J_iand (pc := 11) dX4_space_11 ?_
  obtain ⟨v7, e8, h⟩ := bnd_e h
  refine J_topi e8 ?_
  refine J_istore_n (pc := 12) dX4_space_12 rfl (Nat.le_of_ble_eq_true rfl) [1, 2, 3, 0] rfl ?_
  refine J_iconst (v := (0 : Int32)) (pc := 13) dX4_space_13 (by decide) ?_
  refine J_istore (pc := 14) dX4_space_14 (Nat.le_of_ble_eq_true rfl) [1, 2, 3, 4, 0] rfl ?_
  refine J_LS [(0, .ref 53), (1, .int a1), (2, .int a2), (3, .int v7), (4, .int (0 : Int32))] [] rfl rfl ?_
  refine J_iconst (v := (1 : Int32)) (pc := 16) dX4_space_16 (by decide) ?_
  refine J_istore (pc := 17) dX4_space_17 (Nat.le_of_ble_eq_true rfl) [1, 2, 3, 4, 5, 0] rfl ?_
  refine kL_X4_space_L19 _ _ _ _ _ (fun v39 h => ?_) fuelN _ _ h
  refine J_iload (pc := 122) dX4_space_122 0 rfl ?_
  cases h
  exact J_ireturn dX4_space_124 rfl rfl rfl rfl rfl
set_option maxHeartbeats 4000000 in
set_option maxRecDepth 100000 in
theorem k_X4_canSlide {E : En} (a1 : Int32) (a2 : Int32) (M : Wd) {r : Int32} (h : F_X4_canSlide a1 a2 M = some r) : Con E mi_X4_canSlide [.ref 53, .int a1, .int a2] M (.inl (some (.int r))) M := by
  unfold F_X4_canSlide at h
  refine Con.of (by decide) rfl (Nat.le_of_ble_eq_true rfl) (fun κ => ?_)
  show J κ E mi_X4_canSlide _ 0 0 [(0, .ref 53), (1, .int a1), (2, .int a2)] M 0 []
  refine J_iload_n (pc := 0) dX4_canSlide_0 rfl 2 rfl ?_
  refine J_if_le (pc := 1) (tgt := 22) dX4_canSlide_1 (by decide) (fun c1 => ?_) (fun c1 => ?_)
  · replace h := ifp c1 h
    refine J_aload_n (pc := 22) dX4_canSlide_22 rfl 0 rfl ?_
    refine J_iload_n (pc := 23) dX4_canSlide_23 rfl 1 rfl ?_
    refine J_iconst (v := (-1 : Int32)) (pc := 24) dX4_canSlide_24 (by decide) ?_
    obtain ⟨v2, hc3, h⟩ := obind_e h
    refine J_callV (g := mi_X4_space) (ci := 4) (pc := 25) [.int a1, .int (-1 : Int32)] [] mv_X4_space w_1178 (k_X4_space a1 (-1 : Int32) _ hc3) rfl (by decide) rfl rfl rfl ⟨⟨Nat.le_of_ble_eq_true rfl, Nat.le_of_ble_eq_true rfl⟩, Nat.le_of_ble_eq_true rfl, Nat.le_of_ble_eq_true rfl⟩ (Nat.le_of_ble_eq_true rfl) dX4_canSlide_25 (Jk_v rfl rfl fun hok4 => ?_)
    refine J_iload_n (pc := 28) dX4_canSlide_28 rfl 2 rfl ?_
    refine J_ineg (pc := 29) dX4_canSlide_29 ?_
    refine J_icmp_lt (pc := 30) (tgt := 37) dX4_canSlide_30 (by decide) (fun c5 => ?_) (fun c5 => ?_)
    · replace h := ifp c5 h
      refine J_iconst (v := (0 : Int32)) (pc := 37) dX4_canSlide_37 (by decide) ?_
      cases h
      exact J_zreturn dX4_canSlide_38 rfl (Or.inl rfl) rfl rfl rfl rfl
    · replace h := ifn c5 h
      refine J_iconst (v := (1 : Int32)) (pc := 33) dX4_canSlide_33 (by decide) ?_
      refine J_goto (pc := 34) (tgt := 38) dX4_canSlide_34 (by decide) ?_
      cases h
      exact J_zreturn dX4_canSlide_38 rfl (Or.inr rfl) rfl rfl rfl rfl
  · replace h := ifn c1 h
    refine J_aload_n (pc := 4) dX4_canSlide_4 rfl 0 rfl ?_
    refine J_iload_n (pc := 5) dX4_canSlide_5 rfl 1 rfl ?_
    refine J_iconst (v := (1 : Int32)) (pc := 6) dX4_canSlide_6 (by decide) ?_
    obtain ⟨v6, hc7, h⟩ := obind_e h
    refine J_callV (g := mi_X4_space) (ci := 4) (pc := 7) [.int a1, .int (1 : Int32)] [] mv_X4_space w_1178 (k_X4_space a1 (1 : Int32) _ hc7) rfl (by decide) rfl rfl rfl ⟨⟨Nat.le_of_ble_eq_true rfl, Nat.le_of_ble_eq_true rfl⟩, Nat.le_of_ble_eq_true rfl, Nat.le_of_ble_eq_true rfl⟩ (Nat.le_of_ble_eq_true rfl) dX4_canSlide_7 (Jk_v rfl rfl fun hok8 => ?_)
    refine J_iload_n (pc := 10) dX4_canSlide_10 rfl 2 rfl ?_
    refine J_icmp_lt (pc := 11) (tgt := 18) dX4_canSlide_11 (by decide) (fun c9 => ?_) (fun c9 => ?_)
    · replace h := ifp c9 h
      refine J_iconst (v := (0 : Int32)) (pc := 18) dX4_canSlide_18 (by decide) ?_
      refine J_goto (pc := 19) (tgt := 38) dX4_canSlide_19 (by decide) ?_
      cases h
      exact J_zreturn dX4_canSlide_38 rfl (Or.inl rfl) rfl rfl rfl rfl
    · replace h := ifn c9 h
      refine J_iconst (v := (1 : Int32)) (pc := 14) dX4_canSlide_14 (by decide) ?_
      refine J_goto (pc := 15) (tgt := 38) dX4_canSlide_15 (by decide) ?_
      cases h
      exact J_zreturn dX4_canSlide_38 rfl (Or.inr rfl) rfl rfl rfl rfl
set_option maxHeartbeats 4000000 in
set_option maxRecDepth 100000 in
theorem k_X4_isFree {E : En} (M : Wd) : Con E mi_X4_isFree [.ref 53] M (.inl (some (.int (F_X4_isFree M)))) M := by
  obtain ⟨r, h⟩ : ∃ r, F_X4_isFree M = r := ⟨_, rfl⟩
  rw [h]
  unfold F_X4_isFree at h
  refine Con.of (by decide) rfl (Nat.le_of_ble_eq_true rfl) (fun κ => ?_)
  show J κ E mi_X4_isFree _ 0 0 [(0, .ref 53)] M 0 []
  refine J_aload_n (pc := 0) dX4_isFree_0 rfl 0 rfl ?_
  refine get_53_3 (pc := 1) w_1026 dX4_isFree_1 ?_
  refine J_iconst (v := (0 : Int32)) (pc := 4) dX4_isFree_4 (by decide) ?_
  refine J_iald (c := 55) (N := 82) (pc := 5) ja_55 (Nat.le_of_ble_eq_true rfl) (vpc rfl) dX4_isFree_5 ?_
  refine J_topi (x := M.1 55 (Int32.toNatClampNeg 0)) (y := (M.1 55 0)) (Eq.symm (a := M.1 55 (Int32.toNatClampNeg 0)) (show M.1 55 0 = (M.1 55 0) from rfl)) ?_
  refine J_if_le (pc := 6) (tgt := 32) dX4_isFree_6 (by decide) (fun c1 => ?_) (fun c1 => ?_)
  · replace h := ifp c1 h
    refine J_iconst (v := (0 : Int32)) (pc := 32) dX4_isFree_32 (by decide) ?_
    subst h
    exact J_zreturn dX4_isFree_33 rfl (Or.inl rfl) rfl rfl rfl rfl
  · replace h := ifn c1 h
    refine J_aload_n (pc := 9) dX4_isFree_9 rfl 0 rfl ?_
    refine get_53_3 (pc := 10) w_1026 dX4_isFree_10 ?_
    refine J_bipush (v := (7 : Int32)) (pc := 13) dX4_isFree_13 (by decide) ?_
    refine J_iald (c := 55) (N := 82) (pc := 15) ja_55 (Nat.le_of_ble_eq_true rfl) (vpc rfl) dX4_isFree_15 ?_
    refine J_topi (x := M.1 55 (Int32.toNatClampNeg 7)) (y := (M.1 55 7)) (Eq.symm (a := M.1 55 (Int32.toNatClampNeg 7)) (show M.1 55 7 = (M.1 55 7) from rfl)) ?_
    refine J_aload_n (pc := 16) dX4_isFree_16 rfl 0 rfl ?_
    refine get_53_3 (pc := 17) w_1026 dX4_isFree_17 ?_
    refine J_bipush (v := (13 : Int32)) (pc := 20) dX4_isFree_20 (by decide) ?_
    refine J_iald (c := 55) (N := 82) (pc := 22) ja_55 (Nat.le_of_ble_eq_true rfl) (vpc rfl) dX4_isFree_22 ?_
    refine J_topi (x := M.1 55 (Int32.toNatClampNeg 13)) (y := (M.1 55 13)) (Eq.symm (a := M.1 55 (Int32.toNatClampNeg 13)) (show M.1 55 13 = (M.1 55 13) from rfl)) ?_
    refine J_iadd (pc := 23) dX4_isFree_23 ?_
    refine J_iconst (v := (5 : Int32)) (pc := 24) dX4_isFree_24 (by decide) ?_
    refine J_icmp_ne (pc := 25) (tgt := 32) dX4_isFree_25 (by decide) (fun c2 => ?_) (fun c2 => ?_)
    · replace h := ifn c2 h
      refine J_iconst (v := (0 : Int32)) (pc := 32) dX4_isFree_32 (by decide) ?_
      subst h
      exact J_zreturn dX4_isFree_33 rfl (Or.inl rfl) rfl rfl rfl rfl
    · replace h := ifp c2 h
      refine J_iconst (v := (1 : Int32)) (pc := 28) dX4_isFree_28 (by decide) ?_
      refine J_goto (pc := 29) (tgt := 33) dX4_isFree_29 (by decide) ?_
      subst h
      exact J_zreturn dX4_isFree_33 rfl (Or.inr rfl) rfl rfl rfl rfl
set_option maxHeartbeats 4000000 in
set_option maxRecDepth 100000 in
theorem kL_X4_prepares_L12 {κ : Kx} {E : En} {Q : State → Prop} {ρ : Type} {r : ρ} (a1 : Int32) (K86 : Wd → Option ρ) (hK86 : ∀ (M : Wd), K86 M = some r → J κ E mi_X4_prepares Q 0 0 [] M 86 []) : ∀ (m : Nat) (x3 : Int32) (M : Wd), F_X4_prepares_L12 a1 K86 m x3 M = some r → J κ E mi_X4_prepares Q 0 0 [(0, .ref 53), (1, .int a1), (3, .int x3)] M 12 [] := by
  intro m
  induction m with
  | zero => intro x3 M h; exact (nomatch (show (none : Option ρ) = some r from h))
  | succ m ih =>
    intro x3 M h
    unfold F_X4_prepares_L12 at h
    refine J_iload_n (pc := 12) dX4_prepares_12 rfl 2 rfl ?_
    refine J_iconst (v := (4 : Int32)) (pc := 13) dX4_prepares_13 (by decide) ?_
    refine J_iload_n (pc := 14) dX4_prepares_14 rfl 1 rfl ?_
    refine J_imul (pc := 15) dX4_prepares_15 ?_
    refine J_icmp_ge (pc := 16) (tgt := 86) dX4_prepares_16 (by decide) (fun c1 => ?_) (fun c1 => ?_)
    · replace h := ifp c1 h
      refine J_sub [] rfl ?_
      exact hK86 _ h
    · replace h := ifn c1 h
      refine J_iload_n (pc := 19) dX4_prepares_19 rfl 2 rfl ?_
      refine J_iconst (v := (4 : Int32)) (pc := 20) dX4_prepares_20 (by decide) ?_
      refine J_idiv (pc := 21) dX4_prepares_21 (by decide) ?_
      obtain ⟨v2, e3, h⟩ := bnd_e h
      refine J_topi e3 ?_
      refine J_istore (pc := 22) dX4_prepares_22 (Nat.le_of_ble_eq_true rfl) [1, 2, 3, 0] rfl ?_
      refine J_iload_n (pc := 24) dX4_prepares_24 rfl 2 rfl ?_
      refine J_iconst (v := (4 : Int32)) (pc := 25) dX4_prepares_25 (by decide) ?_
      refine J_irem (pc := 26) dX4_prepares_26 (by decide) ?_
      obtain ⟨v4, e5, h⟩ := bnd_e h
      refine J_topi e5 ?_
      refine J_istore (pc := 27) dX4_prepares_27 (Nat.le_of_ble_eq_true rfl) [1, 2, 3, 4, 0] rfl ?_
      refine J_LS [(0, .ref 53), (1, .int a1), (3, .int x3), (4, .int v2), (5, .int v4)] [] rfl rfl ?_
      refine J_aload_n (pc := 29) dX4_prepares_29 rfl 0 rfl ?_
      refine get_53_8 (pc := 30) w_1031 dX4_prepares_30 ?_
      refine J_iload_n (pc := 33) dX4_prepares_33 rfl 2 rfl ?_
      refine J_iload (pc := 34) dX4_prepares_34 4 rfl ?_
      refine J_aload_n (pc := 36) dX4_prepares_36 rfl 0 rfl ?_
      refine get_53_3 (pc := 37) w_1026 dX4_prepares_37 ?_
      refine J_bipush (v := (13 : Int32)) (pc := 40) dX4_prepares_40 (by decide) ?_
      refine J_iload (pc := 42) dX4_prepares_42 3 rfl ?_
      refine J_iadd (pc := 44) dX4_prepares_44 ?_
      obtain ⟨v6, e7, hk8, h⟩ := ldi_e h
      refine J_iald (c := 55) (N := 82) (pc := 45) ja_55 (Nat.le_of_ble_eq_true rfl) hk8 dX4_prepares_45 ?_
      refine J_topi e7 ?_
      refine J_iadd (pc := 46) dX4_prepares_46 ?_
      refine J_iconst (v := (5 : Int32)) (pc := 47) dX4_prepares_47 (by decide) ?_
      obtain ⟨v9, hv20, h⟩ := obind_e h
      refine J_join [(0, .ref 53), (1, .int a1), (3, .int x3)] M 79 [.int v9, .int x3, .ref 58] ?_ (fun hJ => ?_)
      · obtain ⟨hk21, h⟩ := inb_e h
        refine J_iast (c := 58) (N := 24) (pc := 79) (fun _ => ja_58) (Nat.le_of_ble_eq_true rfl) hk21 dX4_prepares_79 ?_
        obtain ⟨v22, e23, h⟩ := bnd_e h
        refine J_iinc (v := v22) (pc := 80) dX4_prepares_80 2 rfl (by rw [e23]; rfl) (Nat.le_of_ble_eq_true rfl) [1, 2, 0] rfl ?_
        refine J_goto (pc := 83) (tgt := 12) dX4_prepares_83 (by decide) ?_
        exact ih _ _ h
      · replace h := hv20
        refine J_icmp_gt (pc := 48) (tgt := 78) dX4_prepares_48 (by decide) (fun c10 => ?_) (fun c10 => ?_)
        · replace h := ifp c10 h
          refine J_iconst (v := (0 : Int32)) (pc := 78) dX4_prepares_78 (by decide) ?_
          cases h
          refine J_sub [0, 1, 2] rfl ?_
          exact hJ
        · replace h := ifn c10 h
          refine J_aload_n (pc := 51) dX4_prepares_51 rfl 0 rfl ?_
          refine get_53_3 (pc := 52) w_1026 dX4_prepares_52 ?_
          refine J_iconst (v := (1 : Int32)) (pc := 55) dX4_prepares_55 (by decide) ?_
          refine J_iload (pc := 56) dX4_prepares_56 3 rfl ?_
          refine J_iadd (pc := 58) dX4_prepares_58 ?_
          obtain ⟨v11, e12, hk13, h⟩ := ldi_e h
          refine J_iald (c := 55) (N := 82) (pc := 59) ja_55 (Nat.le_of_ble_eq_true rfl) hk13 dX4_prepares_59 ?_
          refine J_topi e12 ?_
          refine J_iload (pc := 60) dX4_prepares_60 4 rfl ?_
          refine J_aload_n (pc := 62) dX4_prepares_62 rfl 0 rfl ?_
          refine get_53_3 (pc := 63) w_1026 dX4_prepares_63 ?_
          refine J_bipush (v := (13 : Int32)) (pc := 66) dX4_prepares_66 (by decide) ?_
          refine J_iload (pc := 68) dX4_prepares_68 3 rfl ?_
          refine J_iadd (pc := 70) dX4_prepares_70 ?_
          obtain ⟨v14, e15, hk16, h⟩ := ldi_e h
          refine J_iald (c := 55) (N := 82) (pc := 71) ja_55 (Nat.le_of_ble_eq_true rfl) hk16 dX4_prepares_71 ?_
          refine J_topi e15 ?_
          obtain ⟨v17, hc18, h⟩ := obind_e h
          refine J_callS (g := mi_X4_cells) (pc := 72) [.int v11, .int v4, .int v14] [.int x3, .ref 58] ms_X4_cells w_1109 (k_X4_cells v11 v4 v14 _ hc18) rfl rfl ⟨⟨Nat.le_of_ble_eq_true rfl, Nat.le_of_ble_eq_true rfl⟩, Nat.le_of_ble_eq_true rfl, Nat.le_of_ble_eq_true rfl⟩ (Nat.le_of_ble_eq_true rfl) dX4_prepares_72 (Jk_v rfl rfl fun hok19 => ?_)
          refine J_goto (pc := 75) (tgt := 79) dX4_prepares_75 (by decide) ?_
          cases h
          refine J_sub [0, 1, 2] rfl ?_
          exact hJ
set_option maxHeartbeats 4000000 in
set_option maxRecDepth 100000 in
theorem k_X4_prepares {E : En} (a1 : Int32) (a2 : Int32) (M : Wd) {M' : Wd} (h : F_X4_prepares a1 a2 M = some M') : Con E mi_X4_prepares [.ref 53, .int a1, .int a2] M (.inl none) M' := by
  unfold F_X4_prepares at h
  refine Con.of (by decide) rfl (Nat.le_of_ble_eq_true rfl) (fun κ => ?_)
  show J κ E mi_X4_prepares _ 0 0 [(0, .ref 53), (1, .int a1), (2, .int a2)] M 0 []
  refine J_aload_n (pc := 0) dX4_prepares_0 rfl 0 rfl ?_
  refine J_iload_n (pc := 1) dX4_prepares_1 rfl 1 rfl ?_
  refine put_53_9 (pc := 2) w_1032 dX4_prepares_2 ?_
  refine J_aload_n (pc := 5) dX4_prepares_5 rfl 0 rfl ?_
  refine J_iload_n (pc := 6) dX4_prepares_6 rfl 2 rfl ?_
  refine put_53_10 (pc := 7) w_1033 dX4_prepares_7 ?_
  refine J_iconst (v := (0 : Int32)) (pc := 10) dX4_prepares_10 (by decide) ?_
  refine J_istore_n (pc := 11) dX4_prepares_11 rfl (Nat.le_of_ble_eq_true rfl) [1, 2, 3, 0] rfl ?_
  refine J_sub [0, 1, 3] rfl ?_
  refine kL_X4_prepares_L12 _ _ (fun M24 h => ?_) fuelN _ _ h
  cases h
  exact J_return dX4_prepares_86 rfl rfl rfl rfl rfl
set_option maxHeartbeats 4000000 in
set_option maxRecDepth 100000 in
theorem kL_X4_codeNow_L4 {κ : Kx} {E : En} {Q : State → Prop} {ρ : Type} {r : ρ} (M : Wd) (K34 : Int32 → Option ρ) (hK34 : ∀ (x1 : Int32), K34 x1 = some r → J κ E mi_X4_codeNow Q 0 0 [(1, .int x1)] M 34 []) : ∀ (m : Nat) (x1 : Int32) (x2 : Int32), F_X4_codeNow_L4 M K34 m x1 x2 = some r → J κ E mi_X4_codeNow Q 0 0 [(0, .ref 53), (1, .int x1), (2, .int x2)] M 4 [] := by
  intro m
  induction m with
  | zero => intro x1 x2 h; exact (nomatch (show (none : Option ρ) = some r from h))
  | succ m ih =>
    intro x1 x2 h
    unfold F_X4_codeNow_L4 at h
    refine J_iload_n (pc := 4) dX4_codeNow_4 rfl 2 rfl ?_
    refine J_aload_n (pc := 5) dX4_codeNow_5 rfl 0 rfl ?_
    refine get_53_9 (pc := 6) w_1032 dX4_codeNow_6 ?_
    refine J_icmp_ge (pc := 9) (tgt := 34) dX4_codeNow_9 (by decide) (fun c1 => ?_) (fun c1 => ?_)
    · replace h := ifp c1 h
      refine J_sub [1] rfl ?_
      exact hK34 _ h
    · replace h := ifn c1 h
      refine J_iload_n (pc := 12) dX4_codeNow_12 rfl 1 rfl ?_
      refine J_aload_n (pc := 13) dX4_codeNow_13 rfl 0 rfl ?_
      refine get_53_3 (pc := 14) w_1026 dX4_codeNow_14 ?_
      refine J_bipush (v := (7 : Int32)) (pc := 17) dX4_codeNow_17 (by decide) ?_
      refine J_iload_n (pc := 19) dX4_codeNow_19 rfl 2 rfl ?_
      refine J_iadd (pc := 20) dX4_codeNow_20 ?_
      obtain ⟨v2, e3, hk4, h⟩ := ldi_e h
      refine J_iald (c := 55) (N := 82) (pc := 21) ja_55 (Nat.le_of_ble_eq_true rfl) hk4 dX4_codeNow_21 ?_
      refine J_topi e3 ?_
      refine J_iconst (v := (2 : Int32)) (pc := 22) dX4_codeNow_22 (by decide) ?_
      refine J_iload_n (pc := 23) dX4_codeNow_23 rfl 2 rfl ?_
      refine J_imul (pc := 24) dX4_codeNow_24 ?_
      refine J_ishl (pc := 25) dX4_codeNow_25 ?_
      refine J_ior (pc := 26) dX4_codeNow_26 ?_
      obtain ⟨v5, e6, h⟩ := bnd_e h
      refine J_topi e6 ?_
      refine J_istore_n (pc := 27) dX4_codeNow_27 rfl (Nat.le_of_ble_eq_true rfl) [1, 0, 2] rfl ?_
      obtain ⟨v7, e8, h⟩ := bnd_e h
      refine J_iinc (v := v7) (pc := 28) dX4_codeNow_28 2 rfl (by rw [e8]; rfl) (Nat.le_of_ble_eq_true rfl) [1, 2, 0] rfl ?_
      refine J_LS [(0, .ref 53), (1, .int v5), (2, .int v7)] [] rfl rfl ?_
      refine J_goto (pc := 31) (tgt := 4) dX4_codeNow_31 (by decide) ?_
      exact ih _ _ h
set_option maxHeartbeats 4000000 in
set_option maxRecDepth 100000 in
theorem k_X4_codeNow {E : En} (M : Wd) {r : Int32} (h : F_X4_codeNow M = some r) : Con E mi_X4_codeNow [.ref 53] M (.inl (some (.int r))) M := by
  unfold F_X4_codeNow at h
  refine Con.of (by decide) rfl (Nat.le_of_ble_eq_true rfl) (fun κ => ?_)
  show J κ E mi_X4_codeNow _ 0 0 [(0, .ref 53)] M 0 []
  refine J_iconst (v := (0 : Int32)) (pc := 0) dX4_codeNow_0 (by decide) ?_
  refine J_istore_n (pc := 1) dX4_codeNow_1 rfl (Nat.le_of_ble_eq_true rfl) [1, 0] rfl ?_
  refine J_iconst (v := (0 : Int32)) (pc := 2) dX4_codeNow_2 (by decide) ?_
  refine J_istore_n (pc := 3) dX4_codeNow_3 rfl (Nat.le_of_ble_eq_true rfl) [1, 2, 0] rfl ?_
  refine J_LS [(0, .ref 53), (1, .int (0 : Int32)), (2, .int (0 : Int32))] [] rfl rfl ?_
  refine kL_X4_codeNow_L4 _ _ (fun v9 h => ?_) fuelN _ _ h
  refine J_iload_n (pc := 34) dX4_codeNow_34 rfl 0 rfl ?_
  cases h
  exact J_ireturn dX4_codeNow_35 rfl rfl rfl rfl rfl
set_option maxHeartbeats 4000000 in
set_option maxRecDepth 100000 in
theorem kL_X4_setOf_L7 {κ : Kx} {E : En} {Q : State → Prop} {ρ : Type} {r : ρ} (a1 : Int32) (M : Wd) (K40 : Int32 → Option ρ) (hK40 : ∀ (x2 : Int32), K40 x2 = some r → J κ E mi_X4_setOf Q 0 0 [(2, .int x2)] M 40 []) : ∀ (m : Nat) (x2 : Int32) (x3 : Int32), F_X4_setOf_L7 a1 M K40 m x2 x3 = some r → J κ E mi_X4_setOf Q 0 0 [(0, .ref 53), (1, .int a1), (2, .int x2), (3, .int x3)] M 7 [] := by
  intro m
  induction m with
  | zero => intro x2 x3 h; exact (nomatch (show (none : Option ρ) = some r from h))
  | succ m ih =>
    intro x2 x3 h
    unfold F_X4_setOf_L7 at h
    refine J_iload_n (pc := 7) dX4_setOf_7 rfl 3 rfl ?_
    refine J_aload_n (pc := 8) dX4_setOf_8 rfl 0 rfl ?_
    refine get_53_9 (pc := 9) w_1032 dX4_setOf_9 ?_
    refine J_icmp_ge (pc := 12) (tgt := 40) dX4_setOf_12 (by decide) (fun c3 => ?_) (fun c3 => ?_)
    · replace h := ifp c3 h
      refine J_sub [2] rfl ?_
      exact hK40 _ h
    · replace h := ifn c3 h
      refine J_iload_n (pc := 15) dX4_setOf_15 rfl 2 rfl ?_
      refine J_aload_n (pc := 16) dX4_setOf_16 rfl 0 rfl ?_
      refine get_53_8 (pc := 17) w_1031 dX4_setOf_17 ?_
      refine J_iconst (v := (4 : Int32)) (pc := 20) dX4_setOf_20 (by decide) ?_
      refine J_iload_n (pc := 21) dX4_setOf_21 rfl 3 rfl ?_
      refine J_imul (pc := 22) dX4_setOf_22 ?_
      refine J_iload_n (pc := 23) dX4_setOf_23 rfl 1 rfl ?_
      refine J_iconst (v := (2 : Int32)) (pc := 24) dX4_setOf_24 (by decide) ?_
      refine J_iload_n (pc := 25) dX4_setOf_25 rfl 3 rfl ?_
      refine J_imul (pc := 26) dX4_setOf_26 ?_
      refine J_ishr (pc := 27) dX4_setOf_27 ?_
      refine J_iconst (v := (3 : Int32)) (pc := 28) dX4_setOf_28 (by decide) ?_
      refine J_iand (pc := 29) dX4_setOf_29 ?_
      refine J_iadd (pc := 30) dX4_setOf_30 ?_
      obtain ⟨v4, e5, hk6, h⟩ := ldi_e h
      refine J_iald (c := 58) (N := 24) (pc := 31) ja_58 (Nat.le_of_ble_eq_true rfl) hk6 dX4_setOf_31 ?_
      refine J_topi e5 ?_
      refine J_ior (pc := 32) dX4_setOf_32 ?_
      obtain ⟨v7, e8, h⟩ := bnd_e h
      refine J_topi e8 ?_
      refine J_istore_n (pc := 33) dX4_setOf_33 rfl (Nat.le_of_ble_eq_true rfl) [1, 2, 0, 3] rfl ?_
      obtain ⟨v9, e10, h⟩ := bnd_e h
      refine J_iinc (v := v9) (pc := 34) dX4_setOf_34 3 rfl (by rw [e10]; rfl) (Nat.le_of_ble_eq_true rfl) [1, 2, 3, 0] rfl ?_
      refine J_LS [(0, .ref 53), (1, .int a1), (2, .int v7), (3, .int v9)] [] rfl rfl ?_
      refine J_goto (pc := 37) (tgt := 7) dX4_setOf_37 (by decide) ?_
      exact ih _ _ h
set_option maxHeartbeats 4000000 in
set_option maxRecDepth 100000 in
theorem k_X4_setOf {E : En} (a1 : Int32) (M : Wd) {r : Int32} (h : F_X4_setOf a1 M = some r) : Con E mi_X4_setOf [.ref 53, .int a1] M (.inl (some (.int r))) M := by
  unfold F_X4_setOf at h
  refine Con.of (by decide) rfl (Nat.le_of_ble_eq_true rfl) (fun κ => ?_)
  show J κ E mi_X4_setOf _ 0 0 [(0, .ref 53), (1, .int a1)] M 0 []
  refine J_aload_n (pc := 0) dX4_setOf_0 rfl 0 rfl ?_
  refine get_53_10 (pc := 1) w_1033 dX4_setOf_1 ?_
  obtain ⟨v1, e2, h⟩ := bnd_e h
  refine J_topi e2 ?_
  refine J_istore_n (pc := 4) dX4_setOf_4 rfl (Nat.le_of_ble_eq_true rfl) [1, 2, 0] rfl ?_
  refine J_iconst (v := (0 : Int32)) (pc := 5) dX4_setOf_5 (by decide) ?_
  refine J_istore_n (pc := 6) dX4_setOf_6 rfl (Nat.le_of_ble_eq_true rfl) [1, 2, 3, 0] rfl ?_
  refine J_LS [(0, .ref 53), (1, .int a1), (2, .int v1), (3, .int (0 : Int32))] [] rfl rfl ?_
  refine kL_X4_setOf_L7 _ _ _ (fun v11 h => ?_) fuelN _ _ h
  refine J_iload_n (pc := 40) dX4_setOf_40 rfl 0 rfl ?_
  cases h
  exact J_ireturn dX4_setOf_41 rfl rfl rfl rfl rfl

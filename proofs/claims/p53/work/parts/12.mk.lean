/-! ===== become, copy ===== -/
theorem wk_9 : Cond.fieldLink RX1 9 "CarTangos$Park" "lanes" "[I" ∈ SWL := SWL_mem 47 (by decide +kernel) rfl
theorem wk_15 : Cond.fieldLink RX1 15 "CarTangos$Park" "places" "[I" ∈ SWL := SWL_mem 50 (by decide +kernel) rfl
theorem wk_18 : Cond.fieldLink RX1 18 "CarTangos$Park" "lengths" "[I" ∈ SWL := SWL_mem 53 (by decide +kernel) rfl
theorem wk_21 : Cond.fieldLink RX1 21 "CarTangos$Park" "loggedCars" "[I" ∈ SWL := SWL_mem 56 (by decide +kernel) rfl
theorem wk_24 : Cond.fieldLink RX1 24 "CarTangos$Park" "loggedChanges" "[I" ∈ SWL := SWL_mem 58 (by decide +kernel) rfl
theorem wk_33 : Cond.fieldLink RX1 33 "CarTangos$Park" "cars" "I" ∈ SWL := SWL_mem 60 (by decide +kernel) rfl
theorem wk_37 : Cond.fieldLink RX1 37 "CarTangos$Park" "walls" "I" ∈ SWL := SWL_mem 62 (by decide +kernel) rfl
theorem wk_40 : Cond.fieldLink RX1 40 "CarTangos$Park" "logged" "I" ∈ SWL := SWL_mem 64 (by decide +kernel) rfl
theorem wk_43 : Cond.fieldLink RX1 43 "CarTangos$Park" "hasStop" "Z" ∈ SWL := SWL_mem 66 (by decide +kernel) rfl
theorem wk_47 : Cond.fieldLink RX1 47 "CarTangos$Park" "stop" "I" ∈ SWL := SWL_mem 68 (by decide +kernel) rfl
theorem wk_l : Cond.methodLink RX1 27 arraycopyName ∈ SWL := SWL_mem 566 (by decide +kernel) rfl
theorem wk_n : Cond.native arraycopyName ∈ SWL := SWL_mem 568 (by decide +kernel) rfl
theorem wk_s : Cond.static arraycopyName ∈ SWL := SWL_mem 567 (by decide +kernel) rfl
theorem wk_i : Cond.initialized "java/lang/System" ∈ SWL := SWL_mem 30 (by decide +kernel) rfl
theorem wk_b : Cond.methodLink RX3 319 yX1_become ∈ SWL := SWL_mem 562 (by decide +kernel) rfl
theorem jc_pka {b : Nat} {E : En} {M : Wd} (j N : Nat) (hj : (j, N) ∈ [(1, 6), (2, 6), (3, 6), (4, 60), (5, 60)]) (hb : isPk b = true) : jc E M (b + j) = .inl (E.2.2.1 0, N, .inl (M.1 (b + j))) := by
  simp only [isPk, Bool.or_eq_true, beq_iff_eq] at hb
  simp only [List.mem_cons, List.not_mem_nil, or_false, Prod.mk.injEq] at hj
  rcases hj with ⟨rfl, rfl⟩ | ⟨rfl, rfl⟩ | ⟨rfl, rfl⟩ | ⟨rfl, rfl⟩ | ⟨rfl, rfl⟩ <;> rcases hb with (((((rfl | rfl) | rfl) | rfl) | rfl) | rfl) | rfl <;> rfl
section JCP
variable {κ : Kx} {E : En} {f : MI} {Q : State → Prop} {k n : Nat} {L : List (Nat × Value)} {M : Wd} {pc : Nat} {st : List Value}
theorem upR_row {c : Nat} {g : Nat → Int32} : (upR M c g).1 c = g := if_pos rfl
theorem J_copyi {b d N i : Nat} {nn : Int32} (hjb : jc E M b = .inl (E.2.2.1 0, N, .inl (M.1 b))) (hjd : ∀ M : Wd, jc E M d = .inl (E.2.2.1 0, N, .inl (M.1 d))) (hb : b < 53) (hd0 : d < 53) (hnn : ¬ nn < 0) (hN : nn.toNatClampNeg = N)
    (hlink : Cond.methodLink f.1.cls i arraycopyName ∈ SWL) (hk : k ≤ f.2.2.2.2.2.2.1) (hs : n ≤ f.2.2.2.2.2.2.2.1) (hfr : 1 ≤ f.2.2.2.2.1) (hlo : (st.map fun v => v.category).sum + (nativeFrameWords "java/lang/System" "arraycopy" 5 + 11) ≤ f.2.2.2.2.2.1) (hd : decode f.2.1 pc = .ok (.invokestatic i, 3))
    (kk : J κ E f Q k n L (upR M d (va_cpy (M.1 b) (M.1 d) 0 0 N)) (pc + 3) st) : J κ E f Q k n L M pc (.int nn :: .int 0 :: .ref d :: .int 0 :: .ref b :: st) := by
  intro hC H locs ls hP hS hl
  obtain ⟨hx, hbt, hml, hrt, hown, hts, hlk, hR, hSx, hl0, -⟩ := id hC
  have h0 : ¬ (0 : Int32) < 0 := by decide
  have hz : (0 : Int32).toNatClampNeg = 0 := by decide
  refine va_copyi hx hbt (by rw [hml, hl.1]) hown (hts _ hlink) (hts _ wk_n) (hts _ wk_s) (hts _ wk_i) hSx.1 hP mk_D hS b d 0 0 (c0 := E.2.2.1 0) (c1 := E.2.2.1 0) (n0 := N) (n1 := N) (f := M.1 b) (g := M.1 d) (ty := .int) (by rw [mk_get hb, hjb]) (by rw [mk_get hd0, hjd]) rfl rfl rfl h0 h0 hnn (by rw [hz, hN]; omega) (by rw [hz, hN]; omega) (fun _ _ => rfl) (by rw [hR]; exact hfr) (by rw [hR, cvs_sum]; exact hlo) hd (fun H1 locs1 hP1 _ hS1 => ?_)
  rw [hz, hN, mk_set hd0 (M' := upR M d (va_cpy (M.1 b) (M.1 d) 0 0 N)) (by rw [hjd, upR_row]) jc_ne_R] at hP1
  exact kk hC H1 locs1 ls hP1 hS1 hl
/-- fields of a park -/
theorem J_getpkA {b i : Nat} (j : Nat) {nm : String} (hb : isPk b = true) (hj : j < 5) (h1 : (TX1 j).2.1 = nm) (h2 : (TX1 j).2.2.1 = "[I") (h3 : (TX1 j).1 = "CarTangos$Park") (hlink : Cond.fieldLink f.1.cls i "CarTangos$Park" nm "[I" ∈ SWL) (hd : decode f.2.1 pc = .ok (.getfield i, 3))
    (kk : J κ E f Q k n L M (pc + 3) (.ref (b + (j + 1)) :: st)) : J κ E f Q k n L M pc (.ref b :: st) := by
  have hb' := jpk_lt hb
  refine J_get (jc_pk hb) (by omega) rfl lay_X1 j (by omega) (by rw [h1, h2]; exact hlink) h3 ?_ hd kk
  match j, hj with
  | 0, _ => rfl
  | 1, _ => rfl
  | 2, _ => rfl
  | 3, _ => rfl
  | 4, _ => rfl
theorem J_getpkI {b i : Nat} (j : Nat) {nm ds : String} (hb : isPk b = true) (hj : j < 5) (h1 : (TX1 (j + 5)).2.1 = nm) (h2 : (TX1 (j + 5)).2.2.1 = ds) (h3 : (TX1 (j + 5)).1 = "CarTangos$Park") (hlink : Cond.fieldLink f.1.cls i "CarTangos$Park" nm ds ∈ SWL) (hd : decode f.2.1 pc = .ok (.getfield i, 3))
    (kk : J κ E f Q k n L M (pc + 3) (.int (M.1 b (j + 5)) :: st)) : J κ E f Q k n L M pc (.ref b :: st) := by
  have hb' := jpk_lt hb
  refine J_get (jc_pk hb) (by omega) rfl lay_X1 (j + 5) (by omega) (by rw [h1, h2]; exact hlink) h3 ?_ hd kk
  match j, hj with
  | 0, _ => rfl
  | 1, _ => rfl
  | 2, _ => rfl
  | 3, _ => rfl
  | 4, _ => rfl
theorem J_putpk {b i : Nat} {v : Int32} (j : Nat) {nm ds : String} (hb : isPk b = true) (hj : j < 5) (h1 : (TX1 (j + 5)).2.1 = nm) (h2 : (TX1 (j + 5)).2.2.1 = ds) (h3 : (TX1 (j + 5)).1 = "CarTangos$Park") (hf : (TX1 (j + 5)).2.2.2 = false) (hnf : narrow (tyX1 (j + 5)) (cv E (.int v)) = cv E (.int v) ∧ fits (tyX1 (j + 5)) (cv E (.int v)) = true) (hlink : Cond.fieldLink f.1.cls i "CarTangos$Park" nm ds ∈ SWL) (hd : decode f.2.1 pc = .ok (.putfield i, 3))
    (kk : J κ E f Q k n L (upI M b (j + 5) v) (pc + 3) st) : J κ E f Q k n L M pc (.int v :: .ref b :: st) := by
  have hb' := jpk_lt hb
  refine J_put (M' := upI M b (j + 5) v) (jc_pk hb) (by omega) rfl lay_X1 tyX1 tyX1_ok nmX1 (j + 5) (by omega) (by rw [h1, h2]; exact hlink) h3 hf hnf.1 hnf.2 (show j + 5 < 10 by omega) ?_ jc_ne_I hd kk
  rw [jc_pk hb, upI_row]
  match j, hj with
  | 0, _ => rfl
  | 1, _ => rfl
  | 2, _ => rfl
  | 3, _ => rfl
  | 4, _ => rfl
end JCP
def cpA (M : Wd) (b a j N : Nat) : Wd := upR M (a + j) (va_cpy (M.1 (b + j)) (M.1 (a + j)) 0 0 N)
def cpI (M : Wd) (b a j : Nat) : Wd := upI M a j (M.1 b j)
def cpAs (M : Wd) (b a : Nat) : Wd := cpA (cpA (cpA (cpA (cpA M b a 1 6) b a 2 6) b a 3 6) b a 4 60) b a 5 60
/-- the park at a becomes the park at b -/
def cpP (M : Wd) (b a : Nat) : Wd := cpI (cpI (cpI (cpI (cpI (cpAs M b a) b a 5) b a 6) b a 7) b a 8) b a 9
/-- copy(b, a) -/
def F_X3_copy (b a : Nat) (M : Wd) : Option Wd := if isPk b = true ∧ isPk a = true ∧ (M.1 b 8 = 0 ∨ M.1 b 8 = 1) then some (cpP M b a) else none
theorem isPk_ne {a b : Nat} (ha : isPk a = true) (hb : isPk b = true) (j : Nat) (h0 : 0 < j) (h5 : j < 6) : b ≠ a + j := by
  simp only [isPk, Bool.or_eq_true, beq_iff_eq] at ha hb
  omega
theorem cpA_int {M : Wd} {b a j N : Nat} (ha : isPk a = true) (hb : isPk b = true) (h0 : 0 < j) (h5 : j < 6) : (cpA M b a j N).1 b = M.1 b := if_neg (isPk_ne ha hb j h0 h5)
theorem cpI_8 {M : Wd} {b a j : Nat} (hj : j ≠ 8) : (cpI M b a j).1 b 8 = M.1 b 8 := by
  unfold cpI
  by_cases h : b = a
  · subst h
    rw [upI_row]
    exact if_neg (fun q => hj q.symm)
  · rw [upI_row_ne h]
theorem k_X1_become {E : En} (b a : Nat) (M : Wd) (hb : isPk b = true) (ha : isPk a = true) (h8 : isB (M.1 b 8)) : Con E mi_X1_become [.ref a, .ref b] M (.inl none) (cpP M b a) := by
  have hb' := jpk_lt hb
  have ha' := jpk_lt ha
  refine Con.of (by decide) rfl (Nat.le_of_ble_eq_true rfl) (fun κ => ?_)
  show J κ E mi_X1_become _ 0 0 [(0, .ref a), (1, .ref b)] M 0 []
  refine J_aload_n (pc := 0) dX1_become_0 rfl 1 rfl ?_
  refine J_getpkA (pc := 1) 0 hb (by decide) rfl rfl rfl wk_9 dX1_become_1 ?_
  refine J_iconst (v := (0 : Int32)) (pc := 4) dX1_become_4 (by decide) ?_
  refine J_aload_n (pc := 5) dX1_become_5 rfl 0 rfl ?_
  refine J_getpkA (pc := 6) 0 ha (by decide) rfl rfl rfl wk_9 dX1_become_6 ?_
  refine J_iconst (v := (0 : Int32)) (pc := 9) dX1_become_9 (by decide) ?_
  refine J_bipush (v := (6 : Int32)) (pc := 10) dX1_become_10 (by decide) ?_
  refine J_copyi (N := 6) (pc := 12) (jc_pka 1 6 (by decide) hb) (fun _ => jc_pka 1 6 (by decide) ha) (by omega) (by omega) (by decide) (by decide) wk_l (Nat.le_of_ble_eq_true rfl) (Nat.le_of_ble_eq_true rfl) (Nat.le_of_ble_eq_true rfl) (Nat.le_of_ble_eq_true rfl) dX1_become_12 ?_
  refine J_aload_n (pc := 15) dX1_become_15 rfl 1 rfl ?_
  refine J_getpkA (pc := 16) 1 hb (by decide) rfl rfl rfl wk_15 dX1_become_16 ?_
  refine J_iconst (v := (0 : Int32)) (pc := 19) dX1_become_19 (by decide) ?_
  refine J_aload_n (pc := 20) dX1_become_20 rfl 0 rfl ?_
  refine J_getpkA (pc := 21) 1 ha (by decide) rfl rfl rfl wk_15 dX1_become_21 ?_
  refine J_iconst (v := (0 : Int32)) (pc := 24) dX1_become_24 (by decide) ?_
  refine J_bipush (v := (6 : Int32)) (pc := 25) dX1_become_25 (by decide) ?_
  refine J_copyi (N := 6) (pc := 27) (jc_pka 2 6 (by decide) hb) (fun _ => jc_pka 2 6 (by decide) ha) (by omega) (by omega) (by decide) (by decide) wk_l (Nat.le_of_ble_eq_true rfl) (Nat.le_of_ble_eq_true rfl) (Nat.le_of_ble_eq_true rfl) (Nat.le_of_ble_eq_true rfl) dX1_become_27 ?_
  refine J_aload_n (pc := 30) dX1_become_30 rfl 1 rfl ?_
  refine J_getpkA (pc := 31) 2 hb (by decide) rfl rfl rfl wk_18 dX1_become_31 ?_
  refine J_iconst (v := (0 : Int32)) (pc := 34) dX1_become_34 (by decide) ?_
  refine J_aload_n (pc := 35) dX1_become_35 rfl 0 rfl ?_
  refine J_getpkA (pc := 36) 2 ha (by decide) rfl rfl rfl wk_18 dX1_become_36 ?_
  refine J_iconst (v := (0 : Int32)) (pc := 39) dX1_become_39 (by decide) ?_
  refine J_bipush (v := (6 : Int32)) (pc := 40) dX1_become_40 (by decide) ?_
  refine J_copyi (N := 6) (pc := 42) (jc_pka 3 6 (by decide) hb) (fun _ => jc_pka 3 6 (by decide) ha) (by omega) (by omega) (by decide) (by decide) wk_l (Nat.le_of_ble_eq_true rfl) (Nat.le_of_ble_eq_true rfl) (Nat.le_of_ble_eq_true rfl) (Nat.le_of_ble_eq_true rfl) dX1_become_42 ?_
  refine J_aload_n (pc := 45) dX1_become_45 rfl 1 rfl ?_
  refine J_getpkA (pc := 46) 3 hb (by decide) rfl rfl rfl wk_21 dX1_become_46 ?_
  refine J_iconst (v := (0 : Int32)) (pc := 49) dX1_become_49 (by decide) ?_
  refine J_aload_n (pc := 50) dX1_become_50 rfl 0 rfl ?_
  refine J_getpkA (pc := 51) 3 ha (by decide) rfl rfl rfl wk_21 dX1_become_51 ?_
  refine J_iconst (v := (0 : Int32)) (pc := 54) dX1_become_54 (by decide) ?_
  refine J_bipush (v := (60 : Int32)) (pc := 55) dX1_become_55 (by decide) ?_
  refine J_copyi (N := 60) (pc := 57) (jc_pka 4 60 (by decide) hb) (fun _ => jc_pka 4 60 (by decide) ha) (by omega) (by omega) (by decide) (by decide) wk_l (Nat.le_of_ble_eq_true rfl) (Nat.le_of_ble_eq_true rfl) (Nat.le_of_ble_eq_true rfl) (Nat.le_of_ble_eq_true rfl) dX1_become_57 ?_
  refine J_aload_n (pc := 60) dX1_become_60 rfl 1 rfl ?_
  refine J_getpkA (pc := 61) 4 hb (by decide) rfl rfl rfl wk_24 dX1_become_61 ?_
  refine J_iconst (v := (0 : Int32)) (pc := 64) dX1_become_64 (by decide) ?_
  refine J_aload_n (pc := 65) dX1_become_65 rfl 0 rfl ?_
  refine J_getpkA (pc := 66) 4 ha (by decide) rfl rfl rfl wk_24 dX1_become_66 ?_
  refine J_iconst (v := (0 : Int32)) (pc := 69) dX1_become_69 (by decide) ?_
  refine J_bipush (v := (60 : Int32)) (pc := 70) dX1_become_70 (by decide) ?_
  refine J_copyi (N := 60) (pc := 72) (jc_pka 5 60 (by decide) hb) (fun _ => jc_pka 5 60 (by decide) ha) (by omega) (by omega) (by decide) (by decide) wk_l (Nat.le_of_ble_eq_true rfl) (Nat.le_of_ble_eq_true rfl) (Nat.le_of_ble_eq_true rfl) (Nat.le_of_ble_eq_true rfl) dX1_become_72 ?_
  refine J_M (cpAs M b a) rfl ?_
  have e8 : (cpAs M b a).1 b 8 = M.1 b 8 := by unfold cpAs; rw [cpA_int ha hb (by decide) (by decide), cpA_int ha hb (by decide) (by decide), cpA_int ha hb (by decide) (by decide), cpA_int ha hb (by decide) (by decide), cpA_int ha hb (by decide) (by decide)]
  refine J_aload_n (pc := 75) dX1_become_75 rfl 0 rfl ?_
  refine J_aload_n (pc := 76) dX1_become_76 rfl 1 rfl ?_
  refine J_getpkI (pc := 77) 0 hb (by decide) rfl rfl rfl wk_33 dX1_become_77 ?_
  refine J_putpk (pc := 80) 0 ha (by decide) rfl rfl rfl rfl ⟨rfl, rfl⟩ wk_33 dX1_become_80 ?_
  refine J_M (cpI (cpAs M b a) b a 5) rfl ?_
  refine J_aload_n (pc := 83) dX1_become_83 rfl 0 rfl ?_
  refine J_aload_n (pc := 84) dX1_become_84 rfl 1 rfl ?_
  refine J_getpkI (pc := 85) 1 hb (by decide) rfl rfl rfl wk_37 dX1_become_85 ?_
  refine J_putpk (pc := 88) 1 ha (by decide) rfl rfl rfl rfl ⟨rfl, rfl⟩ wk_37 dX1_become_88 ?_
  refine J_M (cpI (cpI (cpAs M b a) b a 5) b a 6) rfl ?_
  refine J_aload_n (pc := 91) dX1_become_91 rfl 0 rfl ?_
  refine J_aload_n (pc := 92) dX1_become_92 rfl 1 rfl ?_
  refine J_getpkI (pc := 93) 2 hb (by decide) rfl rfl rfl wk_40 dX1_become_93 ?_
  refine J_putpk (pc := 96) 2 ha (by decide) rfl rfl rfl rfl ⟨rfl, rfl⟩ wk_40 dX1_become_96 ?_
  refine J_M (cpI (cpI (cpI (cpAs M b a) b a 5) b a 6) b a 7) rfl ?_
  have e9 : isB ((cpI (cpI (cpI (cpAs M b a) b a 5) b a 6) b a 7).1 b 8) := by rw [cpI_8 (by decide), cpI_8 (by decide), cpI_8 (by decide), e8]; exact h8
  refine J_aload_n (pc := 99) dX1_become_99 rfl 0 rfl ?_
  refine J_aload_n (pc := 100) dX1_become_100 rfl 1 rfl ?_
  refine J_getpkI (pc := 101) 3 hb (by decide) rfl rfl rfl wk_43 dX1_become_101 ?_
  refine J_putpk (pc := 104) 3 ha (by decide) rfl rfl rfl rfl ⟨nar_b _ e9, fit_b _ e9⟩ wk_43 dX1_become_104 ?_
  refine J_M (cpI (cpI (cpI (cpI (cpAs M b a) b a 5) b a 6) b a 7) b a 8) rfl ?_
  refine J_aload_n (pc := 107) dX1_become_107 rfl 0 rfl ?_
  refine J_aload_n (pc := 108) dX1_become_108 rfl 1 rfl ?_
  refine J_getpkI (pc := 109) 4 hb (by decide) rfl rfl rfl wk_47 dX1_become_109 ?_
  refine J_putpk (pc := 112) 4 ha (by decide) rfl rfl rfl rfl ⟨rfl, rfl⟩ wk_47 dX1_become_112 ?_
  refine J_M (cpI (cpI (cpI (cpI (cpI (cpAs M b a) b a 5) b a 6) b a 7) b a 8) b a 9) rfl ?_
  exact J_return dX1_become_115 rfl rfl rfl rfl rfl
theorem k_X3_copy {E : En} (b a : Nat) (M : Wd) {M' : Wd} (h : F_X3_copy b a M = some M') : Con E mi_X3_copy [.ref b, .ref a] M (.inl none) M' := by
  unfold F_X3_copy at h
  by_cases hc : isPk b = true ∧ isPk a = true ∧ (M.1 b 8 = 0 ∨ M.1 b 8 = 1)
  · rw [if_pos hc] at h
    cases h
    obtain ⟨hb, ha, h8⟩ := hc
    have hb' := jpk_lt hb
    have ha' := jpk_lt ha
    refine Con.of (by decide) rfl (Nat.le_of_ble_eq_true rfl) (fun κ => ?_)
    show J κ E mi_X3_copy _ 0 0 [(0, .ref b), (1, .ref a)] M 0 []
    refine J_aload_n (pc := 0) dX3_copy_0 rfl 0 rfl ?_
    refine J_ifnull (pc := 1) dX3_copy_1 ?_
    refine J_aload_n (pc := 4) dX3_copy_4 rfl 1 rfl ?_
    refine J_ifnull (pc := 5) dX3_copy_5 ?_
    refine J_aload_n (pc := 8) dX3_copy_8 rfl 1 rfl ?_
    refine J_aload_n (pc := 9) dX3_copy_9 rfl 0 rfl ?_
    refine J_callV (g := mi_X1_become) (ci := 1) (pc := 10) [.ref b] [] mv_X1_become wk_b (k_X1_become b a M hb ha h8) (jc_pk ha) (by omega) rfl rfl rfl ⟨⟨Nat.le_of_ble_eq_true rfl, Nat.le_of_ble_eq_true rfl⟩, Nat.le_of_ble_eq_true rfl, Nat.le_of_ble_eq_true rfl⟩ (Nat.le_of_ble_eq_true rfl) dX3_copy_10 (Jk_0 rfl rfl ?_)
    exact J_return dX3_copy_13 rfl rfl rfl rfl rfl
  · rw [if_neg hc] at h
    cases h

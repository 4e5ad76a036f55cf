theorem w_422 : Cond.constant RL 171 (15520601 : Int32) ∈ SWL := SWL_mem 422 (by decide +kernel) rfl
theorem w_423 : Cond.constant RL 172 (2147483647 : Int32) ∈ SWL := SWL_mem 423 (by decide +kernel) rfl
theorem k_L_cell {E : En2} (a : Int32) (M : Wd2) {r : Int32} (h : F_L_cell E.2.2.2 E.2.2.1 a = some r) : Con2 E mi_L_cell [.ref 2, .int a] M (.inl (some (.int r))) M := by
  unfold F_L_cell at h
  refine Con2.of (by decide) rfl (Nat.le_of_ble_eq_true rfl) (fun κ => ?_)
  show K κ E mi_L_cell _ 0 0 [(0, .ref 2), (1, .int a)] M 0 []
  refine K_iload_n (pc := 0) dL_cell_0 rfl 1 rfl ?_
  refine K_aload_n (pc := 1) dL_cell_1 rfl 0 rfl ?_
  refine K_slen (pc := 2) dL_cell_2 ?_
  refine K_icmp_ge (pc := 3) (tgt := 12) dL_cell_3 (by decide) (fun c => ?_) (fun c => ?_)
  · replace h := ifp c h
    cases h
    refine K_ldc (pc := 12) w_422 dL_cell_12 ?_
    refine K_iload_n (pc := 14) dL_cell_14 rfl 1 rfl ?_
    refine K_iconst (v := (3 : Int32)) (pc := 15) dL_cell_15 (by decide) ?_
    refine K_iadd (pc := 16) dL_cell_16 ?_
    refine K_imul (pc := 17) dL_cell_17 ?_
    refine K_sipush (v := (12653 : Int32)) (pc := 18) dL_cell_18 (by decide) ?_
    refine K_iadd (pc := 21) dL_cell_21 ?_
    refine K_ldc (pc := 22) w_423 dL_cell_22 ?_
    refine K_iand (pc := 24) dL_cell_24 ?_
    exact K_ireturn dL_cell_25 rfl rfl rfl rfl rfl
  · obtain ⟨v, e, hk, h⟩ := ldi_e (ifn c h)
    cases h
    refine K_aload_n (pc := 6) dL_cell_6 rfl 0 rfl ?_
    refine K_iload_n (pc := 7) dL_cell_7 rfl 1 rfl ?_
    refine K_sld (pc := 8) hk dL_cell_8 ?_
    refine K_topi e ?_
    refine K_goto (pc := 9) (tgt := 22) dL_cell_9 (by decide) ?_
    refine K_ldc (pc := 22) w_423 dL_cell_22 ?_
    refine K_iand (pc := 24) dL_cell_24 ?_
    exact K_ireturn dL_cell_25 rfl rfl rfl rfl rfl
/-! ===== walks of the law's helpers of two parks ===== -/
set_option maxHeartbeats 4000000 in
set_option maxRecDepth 100000 in
theorem kL_L_alike_L63 {κ : Kx} {E : En2} {Q : State → Prop} {ρ : Type} {r : ρ} (K119 : Int32 → Wd2 → Option ρ) (hK119 : ∀ (x2 : Int32) (M : Wd2), K119 x2 M = some r → K κ E mi_L_alike Q 0 0 [(0, .ref 0), (1, .ref 1), (2, .int x2)] M 119 []) : ∀ (m : Nat) (x2 : Int32) (x3 : Int32) (M : Wd2), F_L_alike_L63 K119 m x2 x3 M = some r → K κ E mi_L_alike Q 0 0 [(0, .ref 0), (1, .ref 1), (2, .int x2), (3, .int x3)] M 63 [] := by
  intro m
  induction m with
  | zero => intro x2 x3 M h; exact (nomatch (show (none : Option ρ) = some r from h))
  | succ m ih =>
    intro x2 x3 M h
    unfold F_L_alike_L63 at h
    refine K_iload_n (pc := 63) dL_alike_63 rfl 3 rfl ?_
    refine K_bipush (v := (25 : Int32)) (pc := 64) dL_alike_64 (by decide) ?_
    refine K_icmp_ge (pc := 66) (tgt := 119) dL_alike_66 (by decide) (fun c22 => ?_) (fun c22 => ?_)
    · replace h := ifp c22 h
      refine K_sub [0, 1, 2] rfl ?_
      exact hK119 _ _ h
    · replace h := ifn c22 h
      refine K_iload_n (pc := 69) dL_alike_69 rfl 2 rfl ?_
      refine K_if_eq (pc := 70) (tgt := 119) dL_alike_70 (by decide) (fun c23 => ?_) (fun c23 => ?_)
      · replace h := ifp c23 h
        refine K_sub [0, 1, 2] rfl ?_
        exact hK119 _ _ h
      · replace h := ifn c23 h
        refine K_aload_n (pc := 73) dL_alike_73 rfl 0 rfl ?_
        refine K_bipush (v := (13 : Int32)) (pc := 74) dL_alike_74 (by decide) ?_
        refine K_iload_n (pc := 76) dL_alike_76 rfl 3 rfl ?_
        refine K_iconst (v := (0 : Int32)) (pc := 77) dL_alike_77 (by decide) ?_
        refine K_iconst (v := (0 : Int32)) (pc := 78) dL_alike_78 (by decide) ?_
        obtain ⟨v24, M25, hc26, h⟩ := obind2_e h
        refine K_callS0 (g := mi_L_call_n) (pc := 79) [.ref 0, .int (13 : Int32), .int x3, .int (0 : Int32), .int (0 : Int32)] [.ref 0, .int (13 : Int32), .int x3, .int (0 : Int32), .int (0 : Int32)] [] ms_L_call_n w_431 (k_L_call_n (E := eo E)  (13 : Int32) x3 (0 : Int32) (0 : Int32) _ hc26) rfl rfl rfl rfl ⟨⟨Nat.le_of_ble_eq_true rfl, Nat.le_of_ble_eq_true rfl⟩, Nat.le_of_ble_eq_true rfl, Nat.le_of_ble_eq_true rfl⟩ (Nat.le_of_ble_eq_true rfl) dL_alike_79 (Kk_v rfl rfl fun hok27 => ?_)
        refine K_aload_n (pc := 82) dL_alike_82 rfl 1 rfl ?_
        refine K_bipush (v := (13 : Int32)) (pc := 83) dL_alike_83 (by decide) ?_
        refine K_iload_n (pc := 85) dL_alike_85 rfl 3 rfl ?_
        refine K_iconst (v := (0 : Int32)) (pc := 86) dL_alike_86 (by decide) ?_
        refine K_iconst (v := (0 : Int32)) (pc := 87) dL_alike_87 (by decide) ?_
        obtain ⟨v28, M29, hc30, h⟩ := obind2_e h
        refine K_callS1 (g := mi_L_call_n) (pc := 88) [.ref 0, .int (13 : Int32), .int x3, .int (0 : Int32), .int (0 : Int32)] [.ref 1, .int (13 : Int32), .int x3, .int (0 : Int32), .int (0 : Int32)] [.int v24] ms_L_call_n w_431 (k_L_call_n (E := ep E)  (13 : Int32) x3 (0 : Int32) (0 : Int32) _ hc30) rfl rfl rfl rfl ⟨⟨Nat.le_of_ble_eq_true rfl, Nat.le_of_ble_eq_true rfl⟩, Nat.le_of_ble_eq_true rfl, Nat.le_of_ble_eq_true rfl⟩ (Nat.le_of_ble_eq_true rfl) dL_alike_88 (Kk_v rfl rfl fun hok31 => ?_)
        obtain ⟨v32, hv41, h⟩ := obind_e h
        refine K_join [(0, .ref 0), (1, .ref 1), (3, .int x3)] (M25, M29) 112 [.int v32] ?_ (fun hJ => ?_)
        · refine K_istore_n (pc := 112) dL_alike_112 rfl (Nat.le_of_ble_eq_true rfl) [1, 2, 0, 3] rfl ?_
          obtain ⟨v42, e43, h⟩ := bnd_e h
          refine K_iinc (v := v42) (pc := 113) dL_alike_113 3 rfl (by rw [e43]; rfl) (Nat.le_of_ble_eq_true rfl) [1, 2, 3, 0] rfl ?_
          refine K_LS [(0, .ref 0), (1, .ref 1), (2, .int v32), (3, .int v42)] [] rfl rfl ?_
          refine K_goto (pc := 116) (tgt := 63) dL_alike_116 (by decide) ?_
          exact ih _ _ _ h
        · replace h := hv41
          refine K_icmp_ne (pc := 91) (tgt := 111) dL_alike_91 (by decide) (fun c33 => ?_) (fun c33 => ?_)
          · replace h := ifn c33 h
            refine K_iconst (v := (0 : Int32)) (pc := 111) dL_alike_111 (by decide) ?_
            cases h
            refine K_sub [0, 1, 3] rfl ?_
            exact hJ
          · replace h := ifp c33 h
            refine K_aload_n (pc := 94) dL_alike_94 rfl 0 rfl ?_
            refine K_iload_n (pc := 95) dL_alike_95 rfl 3 rfl ?_
            obtain ⟨v34, hc35, h⟩ := obind_e h
            refine K_callSX0 (g := mi_L_isWall_n) (pc := 96) [.ref 0, .int x3] [.ref 0, .int x3] [] ms_L_isWall_n w_871 (k_L_isWall_n (E := eo E)  x3 _ hc35) rfl rfl rfl rfl ⟨⟨Nat.le_of_ble_eq_true rfl, Nat.le_of_ble_eq_true rfl⟩, Nat.le_of_ble_eq_true rfl, Nat.le_of_ble_eq_true rfl⟩ (Nat.le_of_ble_eq_true rfl) dL_alike_96 (Kk_v rfl rfl fun hok36 => ?_)
            refine K_aload_n (pc := 99) dL_alike_99 rfl 1 rfl ?_
            refine K_iload_n (pc := 100) dL_alike_100 rfl 3 rfl ?_
            obtain ⟨v37, hc38, h⟩ := obind_e h
            refine K_callSX1 (g := mi_L_isWall_n) (pc := 101) [.ref 0, .int x3] [.ref 1, .int x3] [.int v34] ms_L_isWall_n w_871 (k_L_isWall_n (E := ep E)  x3 _ hc38) rfl rfl rfl rfl ⟨⟨Nat.le_of_ble_eq_true rfl, Nat.le_of_ble_eq_true rfl⟩, Nat.le_of_ble_eq_true rfl, Nat.le_of_ble_eq_true rfl⟩ (Nat.le_of_ble_eq_true rfl) dL_alike_101 (Kk_v rfl rfl fun hok39 => ?_)
            refine K_icmp_ne (pc := 104) (tgt := 111) dL_alike_104 (by decide) (fun c40 => ?_) (fun c40 => ?_)
            · replace h := ifn c40 h
              refine K_iconst (v := (0 : Int32)) (pc := 111) dL_alike_111 (by decide) ?_
              cases h
              refine K_sub [0, 1, 3] rfl ?_
              exact hJ
            · replace h := ifp c40 h
              refine K_iconst (v := (1 : Int32)) (pc := 107) dL_alike_107 (by decide) ?_
              refine K_goto (pc := 108) (tgt := 112) dL_alike_108 (by decide) ?_
              cases h
              refine K_sub [0, 1, 3] rfl ?_
              exact hJ
set_option maxHeartbeats 4000000 in
set_option maxRecDepth 100000 in
theorem kL_L_alike_L121 {κ : Kx} {E : En2} {Q : State → Prop} {ρ : Type} {r : ρ} (K227 : Int32 → Wd2 → Option ρ) (hK227 : ∀ (x2 : Int32) (M : Wd2), K227 x2 M = some r → K κ E mi_L_alike Q 112 672 [(2, .int x2)] M 227 []) : ∀ (m : Nat) (kk nn : Nat) (x2 : Int32) (x3 : Int32) (M : Wd2), kk + 16 * m ≤ 112 → nn + 96 * m ≤ 672 → F_L_alike_L121 K227 m x2 x3 M = some r → K κ E mi_L_alike Q kk nn [(0, .ref 0), (1, .ref 1), (2, .int x2), (3, .int x3)] M 121 [] := by
  intro m
  induction m with
  | zero => intro kk nn x2 x3 M hk hn h; exact (nomatch (show (none : Option ρ) = some r from h))
  | succ m ih =>
    intro kk nn x2 x3 M hk hn h
    unfold F_L_alike_L121 at h
    refine K_wide (k' := (kk + 0)) (n' := (nn + 0)) (by omega) (by omega) ?_
    refine K_iload_n (pc := 121) dL_alike_121 rfl 3 rfl ?_
    refine K_bipush (v := (6 : Int32)) (pc := 122) dL_alike_122 (by decide) ?_
    refine K_icmp_ge (pc := 124) (tgt := 227) dL_alike_124 (by decide) (fun c46 => ?_) (fun c46 => ?_)
    · replace h := ifp c46 h
      refine K_sub [2] rfl ?_
      refine K_wide (k' := 112) (n' := 672) (by omega) (by omega) ?_
      exact hK227 _ _ h
    · replace h := ifn c46 h
      refine K_iload_n (pc := 127) dL_alike_127 rfl 2 rfl ?_
      refine K_if_eq (pc := 128) (tgt := 227) dL_alike_128 (by decide) (fun c47 => ?_) (fun c47 => ?_)
      · replace h := ifp c47 h
        refine K_sub [2] rfl ?_
        refine K_wide (k' := 112) (n' := 672) (by omega) (by omega) ?_
        exact hK227 _ _ h
      · replace h := ifn c47 h
        refine K_aload_n (pc := 131) dL_alike_131 rfl 0 rfl ?_
        refine K_bipush (v := (10 : Int32)) (pc := 132) dL_alike_132 (by decide) ?_
        refine K_iload_n (pc := 134) dL_alike_134 rfl 3 rfl ?_
        refine K_iconst (v := (0 : Int32)) (pc := 135) dL_alike_135 (by decide) ?_
        refine K_iconst (v := (0 : Int32)) (pc := 136) dL_alike_136 (by decide) ?_
        obtain ⟨v48, M49, hc50, h⟩ := obind2_e h
        refine K_callS0 (g := mi_L_call) (pc := 137) [.ref 0, .int (10 : Int32), .int x3, .int (0 : Int32), .int (0 : Int32)] [.ref 0, .int (10 : Int32), .int x3, .int (0 : Int32), .int (0 : Int32)] [] ms_L_call w_431 (k_L_call (E := eo E)  (10 : Int32) x3 (0 : Int32) (0 : Int32) _ hc50) rfl rfl rfl rfl ⟨⟨Nat.le_of_ble_eq_true rfl, Nat.le_of_ble_eq_true rfl⟩, (show (kk + 0) + 2 ≤ 112 by omega), (show (nn + 0) + 12 ≤ 672 by omega)⟩ (Nat.le_of_ble_eq_true rfl) dL_alike_137 (Kk_vk (kk + 2) (nn + 12) rfl rfl fun hok51 => ?_)
        refine K_aload_n (pc := 140) dL_alike_140 rfl 1 rfl ?_
        refine K_bipush (v := (10 : Int32)) (pc := 141) dL_alike_141 (by decide) ?_
        refine K_iload_n (pc := 143) dL_alike_143 rfl 3 rfl ?_
        refine K_iconst (v := (0 : Int32)) (pc := 144) dL_alike_144 (by decide) ?_
        refine K_iconst (v := (0 : Int32)) (pc := 145) dL_alike_145 (by decide) ?_
        obtain ⟨v52, M53, hc54, h⟩ := obind2_e h
        refine K_callS1 (g := mi_L_call) (pc := 146) [.ref 0, .int (10 : Int32), .int x3, .int (0 : Int32), .int (0 : Int32)] [.ref 1, .int (10 : Int32), .int x3, .int (0 : Int32), .int (0 : Int32)] [.int v48] ms_L_call w_431 (k_L_call (E := ep E)  (10 : Int32) x3 (0 : Int32) (0 : Int32) _ hc54) rfl rfl rfl rfl ⟨⟨Nat.le_of_ble_eq_true rfl, Nat.le_of_ble_eq_true rfl⟩, (show (kk + 2) + 2 ≤ 112 by omega), (show (nn + 12) + 12 ≤ 672 by omega)⟩ (Nat.le_of_ble_eq_true rfl) dL_alike_146 (Kk_vk (kk + 4) (nn + 24) rfl rfl fun hok55 => ?_)
        obtain ⟨v56, M57, hv86, h⟩ := obind2_e h
        refine K_joinW (kk + 16) (nn + 96) [(0, .ref 0), (1, .ref 1), (3, .int x3)] M57 220 [.int v56] ?_ (fun hJ => ?_)
        · refine K_istore_n (pc := 220) dL_alike_220 rfl (Nat.le_of_ble_eq_true rfl) [1, 2, 0, 3] rfl ?_
          obtain ⟨v87, e88, h⟩ := bnd_e h
          refine K_iinc (v := v87) (pc := 221) dL_alike_221 3 rfl (by rw [e88]; rfl) (Nat.le_of_ble_eq_true rfl) [1, 2, 3, 0] rfl ?_
          refine K_LS [(0, .ref 0), (1, .ref 1), (2, .int v56), (3, .int v87)] [] rfl rfl ?_
          refine K_goto (pc := 224) (tgt := 121) dL_alike_224 (by decide) ?_
          exact ih _ _ _ _ _ (by omega) (by omega) h
        · replace h := hv86
          refine K_icmp_ne (pc := 149) (tgt := 219) dL_alike_149 (by decide) (fun c58 => ?_) (fun c58 => ?_)
          · replace h := ifn c58 h
            refine K_iconst (v := (0 : Int32)) (pc := 219) dL_alike_219 (by decide) ?_
            cases h
            refine K_sub [0, 1, 3] rfl ?_
            refine K_wide (k' := (kk + 16)) (n' := (nn + 96)) (by omega) (by omega) ?_
            exact hJ
          · replace h := ifp c58 h
            refine K_aload_n (pc := 152) dL_alike_152 rfl 0 rfl ?_
            refine K_bipush (v := (11 : Int32)) (pc := 153) dL_alike_153 (by decide) ?_
            refine K_iload_n (pc := 155) dL_alike_155 rfl 3 rfl ?_
            refine K_iconst (v := (0 : Int32)) (pc := 156) dL_alike_156 (by decide) ?_
            refine K_iconst (v := (0 : Int32)) (pc := 157) dL_alike_157 (by decide) ?_
            obtain ⟨v59, M60, hc61, h⟩ := obind2_e h
            refine K_callS0 (g := mi_L_call) (pc := 158) [.ref 0, .int (11 : Int32), .int x3, .int (0 : Int32), .int (0 : Int32)] [.ref 0, .int (11 : Int32), .int x3, .int (0 : Int32), .int (0 : Int32)] [] ms_L_call w_431 (k_L_call (E := eo E)  (11 : Int32) x3 (0 : Int32) (0 : Int32) _ hc61) rfl rfl rfl rfl ⟨⟨Nat.le_of_ble_eq_true rfl, Nat.le_of_ble_eq_true rfl⟩, (show (kk + 4) + 2 ≤ 112 by omega), (show (nn + 24) + 12 ≤ 672 by omega)⟩ (Nat.le_of_ble_eq_true rfl) dL_alike_158 (Kk_vk (kk + 6) (nn + 36) rfl rfl fun hok62 => ?_)
            refine K_aload_n (pc := 161) dL_alike_161 rfl 1 rfl ?_
            refine K_bipush (v := (11 : Int32)) (pc := 162) dL_alike_162 (by decide) ?_
            refine K_iload_n (pc := 164) dL_alike_164 rfl 3 rfl ?_
            refine K_iconst (v := (0 : Int32)) (pc := 165) dL_alike_165 (by decide) ?_
            refine K_iconst (v := (0 : Int32)) (pc := 166) dL_alike_166 (by decide) ?_
            obtain ⟨v63, M64, hc65, h⟩ := obind2_e h
            refine K_callS1 (g := mi_L_call) (pc := 167) [.ref 0, .int (11 : Int32), .int x3, .int (0 : Int32), .int (0 : Int32)] [.ref 1, .int (11 : Int32), .int x3, .int (0 : Int32), .int (0 : Int32)] [.int v59] ms_L_call w_431 (k_L_call (E := ep E)  (11 : Int32) x3 (0 : Int32) (0 : Int32) _ hc65) rfl rfl rfl rfl ⟨⟨Nat.le_of_ble_eq_true rfl, Nat.le_of_ble_eq_true rfl⟩, (show (kk + 6) + 2 ≤ 112 by omega), (show (nn + 36) + 12 ≤ 672 by omega)⟩ (Nat.le_of_ble_eq_true rfl) dL_alike_167 (Kk_vk (kk + 8) (nn + 48) rfl rfl fun hok66 => ?_)
            refine K_icmp_ne (pc := 170) (tgt := 219) dL_alike_170 (by decide) (fun c67 => ?_) (fun c67 => ?_)
            · replace h := ifn c67 h
              refine K_iconst (v := (0 : Int32)) (pc := 219) dL_alike_219 (by decide) ?_
              cases h
              refine K_sub [0, 1, 3] rfl ?_
              refine K_wide (k' := (kk + 16)) (n' := (nn + 96)) (by omega) (by omega) ?_
              exact hJ
            · replace h := ifp c67 h
              refine K_aload_n (pc := 173) dL_alike_173 rfl 0 rfl ?_
              refine K_bipush (v := (12 : Int32)) (pc := 174) dL_alike_174 (by decide) ?_
              refine K_iload_n (pc := 176) dL_alike_176 rfl 3 rfl ?_
              refine K_iconst (v := (0 : Int32)) (pc := 177) dL_alike_177 (by decide) ?_
              refine K_iconst (v := (0 : Int32)) (pc := 178) dL_alike_178 (by decide) ?_
              obtain ⟨v68, M69, hc70, h⟩ := obind2_e h
              refine K_callS0 (g := mi_L_call) (pc := 179) [.ref 0, .int (12 : Int32), .int x3, .int (0 : Int32), .int (0 : Int32)] [.ref 0, .int (12 : Int32), .int x3, .int (0 : Int32), .int (0 : Int32)] [] ms_L_call w_431 (k_L_call (E := eo E)  (12 : Int32) x3 (0 : Int32) (0 : Int32) _ hc70) rfl rfl rfl rfl ⟨⟨Nat.le_of_ble_eq_true rfl, Nat.le_of_ble_eq_true rfl⟩, (show (kk + 8) + 2 ≤ 112 by omega), (show (nn + 48) + 12 ≤ 672 by omega)⟩ (Nat.le_of_ble_eq_true rfl) dL_alike_179 (Kk_vk (kk + 10) (nn + 60) rfl rfl fun hok71 => ?_)
              refine K_aload_n (pc := 182) dL_alike_182 rfl 1 rfl ?_
              refine K_bipush (v := (12 : Int32)) (pc := 183) dL_alike_183 (by decide) ?_
              refine K_iload_n (pc := 185) dL_alike_185 rfl 3 rfl ?_
              refine K_iconst (v := (0 : Int32)) (pc := 186) dL_alike_186 (by decide) ?_
              refine K_iconst (v := (0 : Int32)) (pc := 187) dL_alike_187 (by decide) ?_
              obtain ⟨v72, M73, hc74, h⟩ := obind2_e h
              refine K_callS1 (g := mi_L_call) (pc := 188) [.ref 0, .int (12 : Int32), .int x3, .int (0 : Int32), .int (0 : Int32)] [.ref 1, .int (12 : Int32), .int x3, .int (0 : Int32), .int (0 : Int32)] [.int v68] ms_L_call w_431 (k_L_call (E := ep E)  (12 : Int32) x3 (0 : Int32) (0 : Int32) _ hc74) rfl rfl rfl rfl ⟨⟨Nat.le_of_ble_eq_true rfl, Nat.le_of_ble_eq_true rfl⟩, (show (kk + 10) + 2 ≤ 112 by omega), (show (nn + 60) + 12 ≤ 672 by omega)⟩ (Nat.le_of_ble_eq_true rfl) dL_alike_188 (Kk_vk (kk + 12) (nn + 72) rfl rfl fun hok75 => ?_)
              refine K_icmp_ne (pc := 191) (tgt := 219) dL_alike_191 (by decide) (fun c76 => ?_) (fun c76 => ?_)
              · replace h := ifn c76 h
                refine K_iconst (v := (0 : Int32)) (pc := 219) dL_alike_219 (by decide) ?_
                cases h
                refine K_sub [0, 1, 3] rfl ?_
                refine K_wide (k' := (kk + 16)) (n' := (nn + 96)) (by omega) (by omega) ?_
                exact hJ
              · replace h := ifp c76 h
                refine K_aload_n (pc := 194) dL_alike_194 rfl 0 rfl ?_
                refine K_bipush (v := (16 : Int32)) (pc := 195) dL_alike_195 (by decide) ?_
                refine K_iload_n (pc := 197) dL_alike_197 rfl 3 rfl ?_
                refine K_iconst (v := (0 : Int32)) (pc := 198) dL_alike_198 (by decide) ?_
                refine K_iconst (v := (0 : Int32)) (pc := 199) dL_alike_199 (by decide) ?_
                obtain ⟨v77, M78, hc79, h⟩ := obind2_e h
                refine K_callS0 (g := mi_L_call) (pc := 200) [.ref 0, .int (16 : Int32), .int x3, .int (0 : Int32), .int (0 : Int32)] [.ref 0, .int (16 : Int32), .int x3, .int (0 : Int32), .int (0 : Int32)] [] ms_L_call w_431 (k_L_call (E := eo E)  (16 : Int32) x3 (0 : Int32) (0 : Int32) _ hc79) rfl rfl rfl rfl ⟨⟨Nat.le_of_ble_eq_true rfl, Nat.le_of_ble_eq_true rfl⟩, (show (kk + 12) + 2 ≤ 112 by omega), (show (nn + 72) + 12 ≤ 672 by omega)⟩ (Nat.le_of_ble_eq_true rfl) dL_alike_200 (Kk_vk (kk + 14) (nn + 84) rfl rfl fun hok80 => ?_)
                refine K_aload_n (pc := 203) dL_alike_203 rfl 1 rfl ?_
                refine K_bipush (v := (16 : Int32)) (pc := 204) dL_alike_204 (by decide) ?_
                refine K_iload_n (pc := 206) dL_alike_206 rfl 3 rfl ?_
                refine K_iconst (v := (0 : Int32)) (pc := 207) dL_alike_207 (by decide) ?_
                refine K_iconst (v := (0 : Int32)) (pc := 208) dL_alike_208 (by decide) ?_
                obtain ⟨v81, M82, hc83, h⟩ := obind2_e h
                refine K_callS1 (g := mi_L_call) (pc := 209) [.ref 0, .int (16 : Int32), .int x3, .int (0 : Int32), .int (0 : Int32)] [.ref 1, .int (16 : Int32), .int x3, .int (0 : Int32), .int (0 : Int32)] [.int v77] ms_L_call w_431 (k_L_call (E := ep E)  (16 : Int32) x3 (0 : Int32) (0 : Int32) _ hc83) rfl rfl rfl rfl ⟨⟨Nat.le_of_ble_eq_true rfl, Nat.le_of_ble_eq_true rfl⟩, (show (kk + 14) + 2 ≤ 112 by omega), (show (nn + 84) + 12 ≤ 672 by omega)⟩ (Nat.le_of_ble_eq_true rfl) dL_alike_209 (Kk_vk (kk + 16) (nn + 96) rfl rfl fun hok84 => ?_)
                refine K_icmp_ne (pc := 212) (tgt := 219) dL_alike_212 (by decide) (fun c85 => ?_) (fun c85 => ?_)
                · replace h := ifn c85 h
                  refine K_iconst (v := (0 : Int32)) (pc := 219) dL_alike_219 (by decide) ?_
                  cases h
                  refine K_sub [0, 1, 3] rfl ?_
                  exact hJ
                · replace h := ifp c85 h
                  refine K_iconst (v := (1 : Int32)) (pc := 215) dL_alike_215 (by decide) ?_
                  refine K_goto (pc := 216) (tgt := 220) dL_alike_216 (by decide) ?_
                  cases h
                  refine K_sub [0, 1, 3] rfl ?_
                  exact hJ
set_option maxHeartbeats 4000000 in
set_option maxRecDepth 100000 in
theorem k_L_alike {E : En2} (M : Wd2) {r : Int32} {M' : Wd2} (h : F_L_alike M = some (r, M')) : Con2 E mi_L_alike [.ref 0, .ref 1] M (.inl (some (.int r))) M' := by
  unfold F_L_alike at h
  refine Con2.of (by decide) rfl (Nat.le_of_ble_eq_true rfl) (fun κ => ?_)
  show K κ E mi_L_alike _ 0 0 [(0, .ref 0), (1, .ref 1)] M 0 []
  refine K_aload_n (pc := 0) dL_alike_0 rfl 0 rfl ?_
  refine K_callV0 (g := mi_X3_cars) (pc := 1) [] [] mv_X3_cars w_427 (k_X3_cars (E := eo E)  _) rfl rfl rfl rfl rfl ⟨⟨Nat.le_of_ble_eq_true rfl, Nat.le_of_ble_eq_true rfl⟩, Nat.le_of_ble_eq_true rfl, Nat.le_of_ble_eq_true rfl⟩ (Nat.le_of_ble_eq_true rfl) dL_alike_1 (Kk_v rfl rfl fun hok1 => ?_)
  refine K_aload_n (pc := 4) dL_alike_4 rfl 1 rfl ?_
  refine K_callV1 (g := mi_X3_cars) (pc := 5) [] [.int (F_X3_cars M.1)] mv_X3_cars w_427 (k_X3_cars (E := ep E)  _) rfl rfl rfl rfl rfl ⟨⟨Nat.le_of_ble_eq_true rfl, Nat.le_of_ble_eq_true rfl⟩, Nat.le_of_ble_eq_true rfl, Nat.le_of_ble_eq_true rfl⟩ (Nat.le_of_ble_eq_true rfl) dL_alike_5 (Kk_v rfl rfl fun hok2 => ?_)
  obtain ⟨v3, hv21, h⟩ := obind_e h
  refine K_join [(0, .ref 0), (1, .ref 1)] M 60 [.int v3] ?_ (fun hJ => ?_)
  · refine K_istore_n (pc := 60) dL_alike_60 rfl (Nat.le_of_ble_eq_true rfl) [1, 2, 0] rfl ?_
    refine K_iconst (v := (0 : Int32)) (pc := 61) dL_alike_61 (by decide) ?_
    refine K_istore_n (pc := 62) dL_alike_62 rfl (Nat.le_of_ble_eq_true rfl) [1, 2, 3, 0] rfl ?_
    refine K_LS [(0, .ref 0), (1, .ref 1), (2, .int v3), (3, .int (0 : Int32))] [] rfl rfl ?_
    refine kL_L_alike_L63 _ (fun v44 M45 h => ?_) fuelN _ _ _ h
    refine K_iconst (v := (0 : Int32)) (pc := 119) dL_alike_119 (by decide) ?_
    refine K_istore_n (pc := 120) dL_alike_120 rfl (Nat.le_of_ble_eq_true rfl) [1, 2, 3, 0] rfl ?_
    refine kL_L_alike_L121 _ (fun v89 M90 h => ?_) 7 _ _ _ _ _ (Nat.le_of_ble_eq_true rfl) (Nat.le_of_ble_eq_true rfl) h
    refine K_iload_n (pc := 227) dL_alike_227 rfl 0 rfl ?_
    obtain ⟨hb91, h⟩ := chB_e h
    cases h
    refine K_wide (k' := 112) (n' := 672) (Nat.le_of_ble_eq_true rfl) (Nat.le_of_ble_eq_true rfl) ?_
    exact K_zreturn dL_alike_228 rfl hb91 rfl rfl rfl rfl
  · replace h := hv21
    refine K_icmp_ne (pc := 8) (tgt := 59) dL_alike_8 (by decide) (fun c4 => ?_) (fun c4 => ?_)
    · replace h := ifn c4 h
      refine K_iconst (v := (0 : Int32)) (pc := 59) dL_alike_59 (by decide) ?_
      cases h
      exact hJ
    · replace h := ifp c4 h
      refine K_aload_n (pc := 11) dL_alike_11 rfl 0 rfl ?_
      refine K_callV0 (g := mi_X3_walls) (pc := 12) [] [] mv_X3_walls w_889 (k_X3_walls (E := eo E)  _) rfl rfl rfl rfl rfl ⟨⟨Nat.le_of_ble_eq_true rfl, Nat.le_of_ble_eq_true rfl⟩, Nat.le_of_ble_eq_true rfl, Nat.le_of_ble_eq_true rfl⟩ (Nat.le_of_ble_eq_true rfl) dL_alike_12 (Kk_v rfl rfl fun hok5 => ?_)
      refine K_aload_n (pc := 15) dL_alike_15 rfl 1 rfl ?_
      refine K_callV1 (g := mi_X3_walls) (pc := 16) [] [.int (F_X3_walls M.1)] mv_X3_walls w_889 (k_X3_walls (E := ep E)  _) rfl rfl rfl rfl rfl ⟨⟨Nat.le_of_ble_eq_true rfl, Nat.le_of_ble_eq_true rfl⟩, Nat.le_of_ble_eq_true rfl, Nat.le_of_ble_eq_true rfl⟩ (Nat.le_of_ble_eq_true rfl) dL_alike_16 (Kk_v rfl rfl fun hok6 => ?_)
      refine K_icmp_ne (pc := 19) (tgt := 59) dL_alike_19 (by decide) (fun c7 => ?_) (fun c7 => ?_)
      · replace h := ifn c7 h
        refine K_iconst (v := (0 : Int32)) (pc := 59) dL_alike_59 (by decide) ?_
        cases h
        exact hJ
      · replace h := ifp c7 h
        refine K_aload_n (pc := 22) dL_alike_22 rfl 0 rfl ?_
        refine K_callV0 (g := mi_X3_logged) (pc := 23) [] [] mv_X3_logged w_885 (k_X3_logged (E := eo E)  _) rfl rfl rfl rfl rfl ⟨⟨Nat.le_of_ble_eq_true rfl, Nat.le_of_ble_eq_true rfl⟩, Nat.le_of_ble_eq_true rfl, Nat.le_of_ble_eq_true rfl⟩ (Nat.le_of_ble_eq_true rfl) dL_alike_23 (Kk_v rfl rfl fun hok8 => ?_)
        refine K_aload_n (pc := 26) dL_alike_26 rfl 1 rfl ?_
        refine K_callV1 (g := mi_X3_logged) (pc := 27) [] [.int (F_X3_logged M.1)] mv_X3_logged w_885 (k_X3_logged (E := ep E)  _) rfl rfl rfl rfl rfl ⟨⟨Nat.le_of_ble_eq_true rfl, Nat.le_of_ble_eq_true rfl⟩, Nat.le_of_ble_eq_true rfl, Nat.le_of_ble_eq_true rfl⟩ (Nat.le_of_ble_eq_true rfl) dL_alike_27 (Kk_v rfl rfl fun hok9 => ?_)
        refine K_icmp_ne (pc := 30) (tgt := 59) dL_alike_30 (by decide) (fun c10 => ?_) (fun c10 => ?_)
        · replace h := ifn c10 h
          refine K_iconst (v := (0 : Int32)) (pc := 59) dL_alike_59 (by decide) ?_
          cases h
          exact hJ
        · replace h := ifp c10 h
          refine K_aload_n (pc := 33) dL_alike_33 rfl 0 rfl ?_
          refine K_callV0 (g := mi_X3_savedStates) (pc := 34) [] [] mv_X3_savedStates w_957 (k_X3_savedStates (E := eo E)  _) rfl rfl rfl rfl rfl ⟨⟨Nat.le_of_ble_eq_true rfl, Nat.le_of_ble_eq_true rfl⟩, Nat.le_of_ble_eq_true rfl, Nat.le_of_ble_eq_true rfl⟩ (Nat.le_of_ble_eq_true rfl) dL_alike_34 (Kk_v rfl rfl fun hok11 => ?_)
          refine K_aload_n (pc := 37) dL_alike_37 rfl 1 rfl ?_
          refine K_callV1 (g := mi_X3_savedStates) (pc := 38) [] [.int (F_X3_savedStates M.1)] mv_X3_savedStates w_957 (k_X3_savedStates (E := ep E)  _) rfl rfl rfl rfl rfl ⟨⟨Nat.le_of_ble_eq_true rfl, Nat.le_of_ble_eq_true rfl⟩, Nat.le_of_ble_eq_true rfl, Nat.le_of_ble_eq_true rfl⟩ (Nat.le_of_ble_eq_true rfl) dL_alike_38 (Kk_v rfl rfl fun hok12 => ?_)
          refine K_icmp_ne (pc := 41) (tgt := 59) dL_alike_41 (by decide) (fun c13 => ?_) (fun c13 => ?_)
          · replace h := ifn c13 h
            refine K_iconst (v := (0 : Int32)) (pc := 59) dL_alike_59 (by decide) ?_
            cases h
            exact hJ
          · replace h := ifp c13 h
            refine K_aload_n (pc := 44) dL_alike_44 rfl 0 rfl ?_
            obtain ⟨v14, hc15, h⟩ := obind_e h
            refine K_callV0 (g := mi_X3_fuel) (pc := 45) [] [] mv_X3_fuel w_896 (k_X3_fuel (E := eo E)  _ hc15) rfl rfl rfl rfl rfl ⟨⟨Nat.le_of_ble_eq_true rfl, Nat.le_of_ble_eq_true rfl⟩, Nat.le_of_ble_eq_true rfl, Nat.le_of_ble_eq_true rfl⟩ (Nat.le_of_ble_eq_true rfl) dL_alike_45 (Kk_v rfl rfl fun hok16 => ?_)
            refine K_aload_n (pc := 48) dL_alike_48 rfl 1 rfl ?_
            obtain ⟨v17, hc18, h⟩ := obind_e h
            refine K_callV1 (g := mi_X3_fuel) (pc := 49) [] [.int v14] mv_X3_fuel w_896 (k_X3_fuel (E := ep E)  _ hc18) rfl rfl rfl rfl rfl ⟨⟨Nat.le_of_ble_eq_true rfl, Nat.le_of_ble_eq_true rfl⟩, Nat.le_of_ble_eq_true rfl, Nat.le_of_ble_eq_true rfl⟩ (Nat.le_of_ble_eq_true rfl) dL_alike_49 (Kk_v rfl rfl fun hok19 => ?_)
            refine K_icmp_ne (pc := 52) (tgt := 59) dL_alike_52 (by decide) (fun c20 => ?_) (fun c20 => ?_)
            · replace h := ifn c20 h
              refine K_iconst (v := (0 : Int32)) (pc := 59) dL_alike_59 (by decide) ?_
              cases h
              exact hJ
            · replace h := ifp c20 h
              refine K_iconst (v := (1 : Int32)) (pc := 55) dL_alike_55 (by decide) ?_
              refine K_goto (pc := 56) (tgt := 60) dL_alike_56 (by decide) ?_
              cases h
              exact hJ
set_option maxHeartbeats 4000000 in
set_option maxRecDepth 100000 in
theorem kL_L_undoes_L5 {κ : Kx} {E : En2} {Q : State → Prop} {ρ : Type} {r : ρ} (a2 : Int32) (K57 : Int32 → Wd2 → Option ρ) (hK57 : ∀ (x3 : Int32) (M : Wd2), K57 x3 M = some r → K κ E mi_L_undoes Q 0 0 [(3, .int x3)] M 57 []) : ∀ (m : Nat) (x3 : Int32) (x4 : Int32) (M : Wd2), F_L_undoes_L5 a2 K57 m x3 x4 M = some r → K κ E mi_L_undoes Q 0 0 [(0, .ref 0), (1, .ref 1), (2, .int a2), (3, .int x3), (4, .int x4)] M 5 [] := by
  intro m
  induction m with
  | zero => intro x3 x4 M h; exact (nomatch (show (none : Option ρ) = some r from h))
  | succ m ih =>
    intro x3 x4 M h
    unfold F_L_undoes_L5 at h
    refine K_iload (pc := 5) dL_undoes_5 4 rfl ?_
    refine K_iload_n (pc := 7) dL_undoes_7 rfl 2 rfl ?_
    refine K_icmp_ge (pc := 8) (tgt := 57) dL_undoes_8 (by decide) (fun c1 => ?_) (fun c1 => ?_)
    · replace h := ifp c1 h
      refine K_sub [3] rfl ?_
      exact hK57 _ _ h
    · replace h := ifn c1 h
      refine K_iload_n (pc := 11) dL_undoes_11 rfl 3 rfl ?_
      refine K_if_eq (pc := 12) (tgt := 57) dL_undoes_12 (by decide) (fun c2 => ?_) (fun c2 => ?_)
      · replace h := ifp c2 h
        refine K_sub [3] rfl ?_
        exact hK57 _ _ h
      · replace h := ifn c2 h
        refine K_aload_n (pc := 15) dL_undoes_15 rfl 0 rfl ?_
        refine K_bipush (v := (8 : Int32)) (pc := 16) dL_undoes_16 (by decide) ?_
        refine K_iconst (v := (0 : Int32)) (pc := 18) dL_undoes_18 (by decide) ?_
        refine K_iconst (v := (0 : Int32)) (pc := 19) dL_undoes_19 (by decide) ?_
        refine K_iconst (v := (0 : Int32)) (pc := 20) dL_undoes_20 (by decide) ?_
        obtain ⟨v3, M4, hc5, h⟩ := obind2_e h
        refine K_callS0 (g := mi_L_call_n) (pc := 21) [.ref 0, .int (8 : Int32), .int (0 : Int32), .int (0 : Int32), .int (0 : Int32)] [.ref 0, .int (8 : Int32), .int (0 : Int32), .int (0 : Int32), .int (0 : Int32)] [] ms_L_call_n w_431 (k_L_call_n (E := eo E)  (8 : Int32) (0 : Int32) (0 : Int32) (0 : Int32) _ hc5) rfl rfl rfl rfl ⟨⟨Nat.le_of_ble_eq_true rfl, Nat.le_of_ble_eq_true rfl⟩, Nat.le_of_ble_eq_true rfl, Nat.le_of_ble_eq_true rfl⟩ (Nat.le_of_ble_eq_true rfl) dL_undoes_21 (Kk_v rfl rfl fun hok6 => ?_)
        refine K_callS0 (g := mi_L_thrown) (pc := 24) [.int v3] [.int v3] [] ms_L_thrown w_967 (k_L_thrown (E := eo E)  v3 _) rfl rfl rfl rfl ⟨⟨Nat.le_of_ble_eq_true rfl, Nat.le_of_ble_eq_true rfl⟩, Nat.le_of_ble_eq_true rfl, Nat.le_of_ble_eq_true rfl⟩ (Nat.le_of_ble_eq_true rfl) dL_undoes_24 (Kk_v rfl rfl fun hok7 => ?_)
        obtain ⟨v8, M9, hv17, h⟩ := obind2_e h
        refine K_join [(0, .ref 0), (1, .ref 1), (2, .int a2), (4, .int x4)] M9 50 [.int v8] ?_ (fun hJ => ?_)
        · refine K_istore_n (pc := 50) dL_undoes_50 rfl (Nat.le_of_ble_eq_true rfl) [1, 2, 3, 0, 4] rfl ?_
          obtain ⟨v18, e19, h⟩ := bnd_e h
          refine K_iinc (v := v18) (pc := 51) dL_undoes_51 4 rfl (by rw [e19]; rfl) (Nat.le_of_ble_eq_true rfl) [1, 2, 3, 4, 0] rfl ?_
          refine K_LS [(0, .ref 0), (1, .ref 1), (2, .int a2), (3, .int v8), (4, .int v18)] [] rfl rfl ?_
          refine K_goto (pc := 54) (tgt := 5) dL_undoes_54 (by decide) ?_
          exact ih _ _ _ h
        · replace h := hv17
          refine K_if_ne (pc := 27) (tgt := 49) dL_undoes_27 (by decide) (fun c10 => ?_) (fun c10 => ?_)
          · replace h := ifn c10 h
            refine K_iconst (v := (0 : Int32)) (pc := 49) dL_undoes_49 (by decide) ?_
            cases h
            refine K_sub [0, 1, 2, 4] rfl ?_
            exact hJ
          · replace h := ifp c10 h
            refine K_aload_n (pc := 30) dL_undoes_30 rfl 1 rfl ?_
            refine K_bipush (v := (8 : Int32)) (pc := 31) dL_undoes_31 (by decide) ?_
            refine K_iconst (v := (0 : Int32)) (pc := 33) dL_undoes_33 (by decide) ?_
            refine K_iconst (v := (0 : Int32)) (pc := 34) dL_undoes_34 (by decide) ?_
            refine K_iconst (v := (0 : Int32)) (pc := 35) dL_undoes_35 (by decide) ?_
            obtain ⟨v11, M12, hc13, h⟩ := obind2_e h
            refine K_callS1 (g := mi_L_call_n) (pc := 36) [.ref 0, .int (8 : Int32), .int (0 : Int32), .int (0 : Int32), .int (0 : Int32)] [.ref 1, .int (8 : Int32), .int (0 : Int32), .int (0 : Int32), .int (0 : Int32)] [] ms_L_call_n w_431 (k_L_call_n (E := ep E)  (8 : Int32) (0 : Int32) (0 : Int32) (0 : Int32) _ hc13) rfl rfl rfl rfl ⟨⟨Nat.le_of_ble_eq_true rfl, Nat.le_of_ble_eq_true rfl⟩, Nat.le_of_ble_eq_true rfl, Nat.le_of_ble_eq_true rfl⟩ (Nat.le_of_ble_eq_true rfl) dL_undoes_36 (Kk_v rfl rfl fun hok14 => ?_)
            refine K_callS0 (g := mi_L_thrown) (pc := 39) [.int v11] [.int v11] [] ms_L_thrown w_967 (k_L_thrown (E := eo E)  v11 _) rfl rfl rfl rfl ⟨⟨Nat.le_of_ble_eq_true rfl, Nat.le_of_ble_eq_true rfl⟩, Nat.le_of_ble_eq_true rfl, Nat.le_of_ble_eq_true rfl⟩ (Nat.le_of_ble_eq_true rfl) dL_undoes_39 (Kk_v rfl rfl fun hok15 => ?_)
            refine K_if_ne (pc := 42) (tgt := 49) dL_undoes_42 (by decide) (fun c16 => ?_) (fun c16 => ?_)
            · replace h := ifn c16 h
              refine K_iconst (v := (0 : Int32)) (pc := 49) dL_undoes_49 (by decide) ?_
              cases h
              refine K_sub [0, 1, 2, 4] rfl ?_
              exact hJ
            · replace h := ifp c16 h
              refine K_iconst (v := (1 : Int32)) (pc := 45) dL_undoes_45 (by decide) ?_
              refine K_goto (pc := 46) (tgt := 50) dL_undoes_46 (by decide) ?_
              cases h
              refine K_sub [0, 1, 2, 4] rfl ?_
              exact hJ
set_option maxHeartbeats 4000000 in
set_option maxRecDepth 100000 in
theorem k_L_undoes {E : En2} (a2 : Int32) (M : Wd2) {r : Int32} {M' : Wd2} (h : F_L_undoes a2 M = some (r, M')) : Con2 E mi_L_undoes [.ref 0, .ref 1, .int a2] M (.inl (some (.int r))) M' := by
  unfold F_L_undoes at h
  refine Con2.of (by decide) rfl (Nat.le_of_ble_eq_true rfl) (fun κ => ?_)
  show K κ E mi_L_undoes _ 0 0 [(0, .ref 0), (1, .ref 1), (2, .int a2)] M 0 []
  refine K_iconst (v := (1 : Int32)) (pc := 0) dL_undoes_0 (by decide) ?_
  refine K_istore_n (pc := 1) dL_undoes_1 rfl (Nat.le_of_ble_eq_true rfl) [1, 2, 3, 0] rfl ?_
  refine K_iconst (v := (0 : Int32)) (pc := 2) dL_undoes_2 (by decide) ?_
  refine K_istore (pc := 3) dL_undoes_3 (Nat.le_of_ble_eq_true rfl) [1, 2, 3, 4, 0] rfl ?_
  refine K_LS [(0, .ref 0), (1, .ref 1), (2, .int a2), (3, .int (1 : Int32)), (4, .int (0 : Int32))] [] rfl rfl ?_
  refine kL_L_undoes_L5 _ _ (fun v20 M21 h => ?_) fuelN _ _ _ h
  refine K_iload_n (pc := 57) dL_undoes_57 rfl 0 rfl ?_
  obtain ⟨hb22, h⟩ := chB_e h
  cases h
  exact K_zreturn dL_undoes_58 rfl hb22 rfl rfl rfl rfl
set_option maxHeartbeats 4000000 in
set_option maxRecDepth 100000 in
theorem k_L_drives {E : En2} (M : Wd2) {r : Int32} {M' : Wd2} (h : F_L_drives M = some (r, M')) : Con2 E mi_L_drives [.ref 0, .ref 1] M (.inl (some (.int r))) M' := by
  unfold F_L_drives at h
  refine Con2.of (by decide) rfl (Nat.le_of_ble_eq_true rfl) (fun κ => ?_)
  show K κ E mi_L_drives _ 0 0 [(0, .ref 0), (1, .ref 1)] M 0 []
  refine K_aload_n (pc := 0) dL_drives_0 rfl 0 rfl ?_
  obtain ⟨v1, M2, hc3, h⟩ := obind2_e h
  refine K_callV0 (g := mi_X3_fewestSlides) (pc := 1) [] [] mv_X3_fewestSlides w_907 (k_X3_fewestSlides (E := eo E)  _ hc3) rfl rfl rfl rfl rfl ⟨⟨Nat.le_of_ble_eq_true rfl, Nat.le_of_ble_eq_true rfl⟩, Nat.le_of_ble_eq_true rfl, Nat.le_of_ble_eq_true rfl⟩ (Nat.le_of_ble_eq_true rfl) dL_drives_1 (Kk_v rfl rfl fun hok4 => ?_)
  refine K_istore_n (pc := 4) dL_drives_4 rfl (Nat.le_of_ble_eq_true rfl) [1, 2, 0] rfl ?_
  refine K_aload_n (pc := 5) dL_drives_5 rfl 0 rfl ?_
  refine K_callV0 (g := mi_X3_logged) (pc := 6) [] [] mv_X3_logged w_885 (k_X3_logged (E := eo E)  _) rfl rfl rfl rfl rfl ⟨⟨Nat.le_of_ble_eq_true rfl, Nat.le_of_ble_eq_true rfl⟩, Nat.le_of_ble_eq_true rfl, Nat.le_of_ble_eq_true rfl⟩ (Nat.le_of_ble_eq_true rfl) dL_drives_6 (Kk_v rfl rfl fun hok5 => ?_)
  obtain ⟨v6, e7, h⟩ := bnd_e h
  refine K_topi e7 ?_
  refine K_istore_n (pc := 9) dL_drives_9 rfl (Nat.le_of_ble_eq_true rfl) [1, 2, 3, 0] rfl ?_
  refine K_LS [(0, .ref 0), (1, .ref 1), (2, .int v1), (3, .int v6)] [] rfl rfl ?_
  refine K_iload_n (pc := 10) dL_drives_10 rfl 2 rfl ?_
  refine K_if_lt (pc := 11) (tgt := 22) dL_drives_11 (by decide) (fun c8 => ?_) (fun c8 => ?_)
  · replace h := ifp c8 h
    refine K_aload_n (pc := 22) dL_drives_22 rfl 0 rfl ?_
    refine K_iconst (v := (4 : Int32)) (pc := 23) dL_drives_23 (by decide) ?_
    refine K_iconst (v := (0 : Int32)) (pc := 24) dL_drives_24 (by decide) ?_
    refine K_iconst (v := (0 : Int32)) (pc := 25) dL_drives_25 (by decide) ?_
    refine K_iconst (v := (0 : Int32)) (pc := 26) dL_drives_26 (by decide) ?_
    obtain ⟨v9, M10, hc11, h⟩ := obind2_e h
    refine K_callS0 (g := mi_L_call) (pc := 27) [.ref 0, .int (4 : Int32), .int (0 : Int32), .int (0 : Int32), .int (0 : Int32)] [.ref 0, .int (4 : Int32), .int (0 : Int32), .int (0 : Int32), .int (0 : Int32)] [] ms_L_call w_431 (k_L_call (E := eo E)  (4 : Int32) (0 : Int32) (0 : Int32) (0 : Int32) _ hc11) rfl rfl rfl rfl ⟨⟨Nat.le_of_ble_eq_true rfl, Nat.le_of_ble_eq_true rfl⟩, Nat.le_of_ble_eq_true rfl, Nat.le_of_ble_eq_true rfl⟩ (Nat.le_of_ble_eq_true rfl) dL_drives_27 (Kk_vk 2 12 rfl rfl fun hok12 => ?_)
    refine K_ldc (pc := 30) w_575 dL_drives_30 ?_
    refine K_icmp_ne (pc := 32) (tgt := 52) dL_drives_32 (by decide) (fun c13 => ?_) (fun c13 => ?_)
    · replace h := ifn c13 h
      refine K_iconst (v := (0 : Int32)) (pc := 52) dL_drives_52 (by decide) ?_
      cases h
      refine K_wide (k' := 14) (n' := 84) (Nat.le_of_ble_eq_true rfl) (Nat.le_of_ble_eq_true rfl) ?_
      exact K_zreturn dL_drives_53 rfl (Or.inl rfl) rfl rfl rfl rfl
    · replace h := ifp c13 h
      refine K_aload_n (pc := 35) dL_drives_35 rfl 1 rfl ?_
      refine K_iconst (v := (4 : Int32)) (pc := 36) dL_drives_36 (by decide) ?_
      refine K_iconst (v := (0 : Int32)) (pc := 37) dL_drives_37 (by decide) ?_
      refine K_iconst (v := (0 : Int32)) (pc := 38) dL_drives_38 (by decide) ?_
      refine K_iconst (v := (0 : Int32)) (pc := 39) dL_drives_39 (by decide) ?_
      obtain ⟨v14, M15, hc16, h⟩ := obind2_e h
      refine K_callS1 (g := mi_L_call) (pc := 40) [.ref 0, .int (4 : Int32), .int (0 : Int32), .int (0 : Int32), .int (0 : Int32)] [.ref 1, .int (4 : Int32), .int (0 : Int32), .int (0 : Int32), .int (0 : Int32)] [] ms_L_call w_431 (k_L_call (E := ep E)  (4 : Int32) (0 : Int32) (0 : Int32) (0 : Int32) _ hc16) rfl rfl rfl rfl ⟨⟨Nat.le_of_ble_eq_true rfl, Nat.le_of_ble_eq_true rfl⟩, Nat.le_of_ble_eq_true rfl, Nat.le_of_ble_eq_true rfl⟩ (Nat.le_of_ble_eq_true rfl) dL_drives_40 (Kk_vk 4 24 rfl rfl fun hok17 => ?_)
      refine K_ldc (pc := 43) w_575 dL_drives_43 ?_
      refine K_icmp_ne (pc := 45) (tgt := 52) dL_drives_45 (by decide) (fun c18 => ?_) (fun c18 => ?_)
      · replace h := ifn c18 h
        refine K_iconst (v := (0 : Int32)) (pc := 52) dL_drives_52 (by decide) ?_
        cases h
        refine K_wide (k' := 14) (n' := 84) (Nat.le_of_ble_eq_true rfl) (Nat.le_of_ble_eq_true rfl) ?_
        exact K_zreturn dL_drives_53 rfl (Or.inl rfl) rfl rfl rfl rfl
      · replace h := ifp c18 h
        refine K_iconst (v := (1 : Int32)) (pc := 48) dL_drives_48 (by decide) ?_
        refine K_goto (pc := 49) (tgt := 53) dL_drives_49 (by decide) ?_
        cases h
        refine K_wide (k' := 14) (n' := 84) (Nat.le_of_ble_eq_true rfl) (Nat.le_of_ble_eq_true rfl) ?_
        exact K_zreturn dL_drives_53 rfl (Or.inr rfl) rfl rfl rfl rfl
  · replace h := ifn c8 h
    refine K_iload_n (pc := 14) dL_drives_14 rfl 3 rfl ?_
    refine K_iload_n (pc := 15) dL_drives_15 rfl 2 rfl ?_
    refine K_iadd (pc := 16) dL_drives_16 ?_
    refine K_bipush (v := (60 : Int32)) (pc := 17) dL_drives_17 (by decide) ?_
    refine K_icmp_le (pc := 19) (tgt := 54) dL_drives_19 (by decide) (fun c19 => ?_) (fun c19 => ?_)
    · replace h := ifp c19 h
      refine K_aload_n (pc := 54) dL_drives_54 rfl 0 rfl ?_
      refine K_bipush (v := (17 : Int32)) (pc := 55) dL_drives_55 (by decide) ?_
      refine K_iconst (v := (0 : Int32)) (pc := 57) dL_drives_57 (by decide) ?_
      refine K_iconst (v := (0 : Int32)) (pc := 58) dL_drives_58 (by decide) ?_
      refine K_iconst (v := (0 : Int32)) (pc := 59) dL_drives_59 (by decide) ?_
      obtain ⟨v20, M21, hc22, h⟩ := obind2_e h
      refine K_callS0 (g := mi_L_call) (pc := 60) [.ref 0, .int (17 : Int32), .int (0 : Int32), .int (0 : Int32), .int (0 : Int32)] [.ref 0, .int (17 : Int32), .int (0 : Int32), .int (0 : Int32), .int (0 : Int32)] [] ms_L_call w_431 (k_L_call (E := eo E)  (17 : Int32) (0 : Int32) (0 : Int32) (0 : Int32) _ hc22) rfl rfl rfl rfl ⟨⟨Nat.le_of_ble_eq_true rfl, Nat.le_of_ble_eq_true rfl⟩, Nat.le_of_ble_eq_true rfl, Nat.le_of_ble_eq_true rfl⟩ (Nat.le_of_ble_eq_true rfl) dL_drives_60 (Kk_vk 2 12 rfl rfl fun hok23 => ?_)
      refine K_istore (pc := 63) dL_drives_63 (Nat.le_of_ble_eq_true rfl) [1, 2, 3, 4, 0] rfl ?_
      refine K_aload_n (pc := 65) dL_drives_65 rfl 0 rfl ?_
      refine K_bipush (v := (18 : Int32)) (pc := 66) dL_drives_66 (by decide) ?_
      refine K_iconst (v := (0 : Int32)) (pc := 68) dL_drives_68 (by decide) ?_
      refine K_iconst (v := (0 : Int32)) (pc := 69) dL_drives_69 (by decide) ?_
      refine K_iconst (v := (0 : Int32)) (pc := 70) dL_drives_70 (by decide) ?_
      obtain ⟨v24, M25, hc26, h⟩ := obind2_e h
      refine K_callS0 (g := mi_L_call) (pc := 71) [.ref 0, .int (18 : Int32), .int (0 : Int32), .int (0 : Int32), .int (0 : Int32)] [.ref 0, .int (18 : Int32), .int (0 : Int32), .int (0 : Int32), .int (0 : Int32)] [] ms_L_call w_431 (k_L_call (E := eo E)  (18 : Int32) (0 : Int32) (0 : Int32) (0 : Int32) _ hc26) rfl rfl rfl rfl ⟨⟨Nat.le_of_ble_eq_true rfl, Nat.le_of_ble_eq_true rfl⟩, Nat.le_of_ble_eq_true rfl, Nat.le_of_ble_eq_true rfl⟩ (Nat.le_of_ble_eq_true rfl) dL_drives_71 (Kk_vk 4 24 rfl rfl fun hok27 => ?_)
      refine K_istore (pc := 74) dL_drives_74 (Nat.le_of_ble_eq_true rfl) [1, 2, 3, 4, 5, 0] rfl ?_
      refine K_LS [(0, .ref 0), (1, .ref 1), (2, .int v1), (3, .int v6), (4, .int v20), (5, .int v24)] [] rfl rfl ?_
      refine K_iload_n (pc := 76) dL_drives_76 rfl 2 rfl ?_
      obtain ⟨v28, M29, hv38, h⟩ := obind2_e h
      refine K_joinW 6 36 [(0, .ref 0), (1, .ref 1), (2, .int v1), (3, .int v6), (4, .int v20), (5, .int v24)] M29 124 [.int v28] ?_ (fun hJ => ?_)
      · refine K_istore (pc := 124) dL_drives_124 (Nat.le_of_ble_eq_true rfl) [1, 2, 3, 4, 5, 6, 0] rfl ?_
        refine K_iload (pc := 126) dL_drives_126 6 rfl ?_
        obtain ⟨v39, M40, hv72, h⟩ := obind2_e h
        refine K_joinW 14 84 [(0, .ref 0), (1, .ref 1), (2, .int v1), (3, .int v6)] M40 216 [.int v39] ?_ (fun hJ => ?_)
        · refine K_istore (pc := 216) dL_drives_216 (Nat.le_of_ble_eq_true rfl) [1, 2, 3, 4, 0] rfl ?_
          refine K_iload (pc := 218) dL_drives_218 4 rfl ?_
          refine K_if_eq (pc := 220) (tgt := 252) dL_drives_220 (by decide) (fun c73 => ?_) (fun c73 => ?_)
          · replace h := ifp c73 h
            refine K_iconst (v := (0 : Int32)) (pc := 252) dL_drives_252 (by decide) ?_
            cases h
            refine K_wide (k' := 14) (n' := 84) (Nat.le_of_ble_eq_true rfl) (Nat.le_of_ble_eq_true rfl) ?_
            exact K_zreturn dL_drives_253 rfl (Or.inl rfl) rfl rfl rfl rfl
          · replace h := ifn c73 h
            refine K_aload_n (pc := 223) dL_drives_223 rfl 0 rfl ?_
            refine K_aload_n (pc := 224) dL_drives_224 rfl 1 rfl ?_
            refine K_iconst (v := (1 : Int32)) (pc := 225) dL_drives_225 (by decide) ?_
            obtain ⟨v74, M75, hc76, h⟩ := obind2_e h
            refine K_callS (g := mi_L_undoes) (pc := 226) [.ref 0, .ref 1, .int (1 : Int32)] [] ms_L_undoes w_964 (k_L_undoes  (1 : Int32) _ hc76) rfl rfl ⟨⟨Nat.le_of_ble_eq_true rfl, Nat.le_of_ble_eq_true rfl⟩, Nat.le_of_ble_eq_true rfl, Nat.le_of_ble_eq_true rfl⟩ (Nat.le_of_ble_eq_true rfl) dL_drives_226 (Kk_v rfl rfl fun hok77 => ?_)
            refine K_if_eq (pc := 229) (tgt := 252) dL_drives_229 (by decide) (fun c78 => ?_) (fun c78 => ?_)
            · replace h := ifp c78 h
              refine K_iconst (v := (0 : Int32)) (pc := 252) dL_drives_252 (by decide) ?_
              cases h
              refine K_wide (k' := 14) (n' := 84) (Nat.le_of_ble_eq_true rfl) (Nat.le_of_ble_eq_true rfl) ?_
              exact K_zreturn dL_drives_253 rfl (Or.inl rfl) rfl rfl rfl rfl
            · replace h := ifn c78 h
              refine K_aload_n (pc := 232) dL_drives_232 rfl 0 rfl ?_
              refine K_callV0 (g := mi_X3_logged) (pc := 233) [] [] mv_X3_logged w_885 (k_X3_logged (E := eo E)  _) rfl rfl rfl rfl rfl ⟨⟨Nat.le_of_ble_eq_true rfl, Nat.le_of_ble_eq_true rfl⟩, Nat.le_of_ble_eq_true rfl, Nat.le_of_ble_eq_true rfl⟩ (Nat.le_of_ble_eq_true rfl) dL_drives_233 (Kk_v rfl rfl fun hok79 => ?_)
              refine K_iload_n (pc := 236) dL_drives_236 rfl 3 rfl ?_
              refine K_icmp_ne (pc := 237) (tgt := 252) dL_drives_237 (by decide) (fun c80 => ?_) (fun c80 => ?_)
              · replace h := ifn c80 h
                refine K_iconst (v := (0 : Int32)) (pc := 252) dL_drives_252 (by decide) ?_
                cases h
                refine K_wide (k' := 14) (n' := 84) (Nat.le_of_ble_eq_true rfl) (Nat.le_of_ble_eq_true rfl) ?_
                exact K_zreturn dL_drives_253 rfl (Or.inl rfl) rfl rfl rfl rfl
              · replace h := ifp c80 h
                refine K_aload_n (pc := 240) dL_drives_240 rfl 0 rfl ?_
                obtain ⟨v81, M82, hc83, h⟩ := obind2_e h
                refine K_callV0 (g := mi_X3_fewestSlides) (pc := 241) [] [] mv_X3_fewestSlides w_907 (k_X3_fewestSlides (E := eo E)  _ hc83) rfl rfl rfl rfl rfl ⟨⟨Nat.le_of_ble_eq_true rfl, Nat.le_of_ble_eq_true rfl⟩, Nat.le_of_ble_eq_true rfl, Nat.le_of_ble_eq_true rfl⟩ (Nat.le_of_ble_eq_true rfl) dL_drives_241 (Kk_v rfl rfl fun hok84 => ?_)
                refine K_iload_n (pc := 244) dL_drives_244 rfl 2 rfl ?_
                refine K_icmp_ne (pc := 245) (tgt := 252) dL_drives_245 (by decide) (fun c85 => ?_) (fun c85 => ?_)
                · replace h := ifn c85 h
                  refine K_iconst (v := (0 : Int32)) (pc := 252) dL_drives_252 (by decide) ?_
                  cases h
                  refine K_wide (k' := 14) (n' := 84) (Nat.le_of_ble_eq_true rfl) (Nat.le_of_ble_eq_true rfl) ?_
                  exact K_zreturn dL_drives_253 rfl (Or.inl rfl) rfl rfl rfl rfl
                · replace h := ifp c85 h
                  refine K_iconst (v := (1 : Int32)) (pc := 248) dL_drives_248 (by decide) ?_
                  refine K_goto (pc := 249) (tgt := 253) dL_drives_249 (by decide) ?_
                  cases h
                  refine K_wide (k' := 14) (n' := 84) (Nat.le_of_ble_eq_true rfl) (Nat.le_of_ble_eq_true rfl) ?_
                  exact K_zreturn dL_drives_253 rfl (Or.inr rfl) rfl rfl rfl rfl
        · replace h := hv72
          refine K_if_eq (pc := 128) (tgt := 215) dL_drives_128 (by decide) (fun c41 => ?_) (fun c41 => ?_)
          · replace h := ifp c41 h
            refine K_iconst (v := (0 : Int32)) (pc := 215) dL_drives_215 (by decide) ?_
            cases h
            refine K_sub [0, 1, 2, 3] rfl ?_
            refine K_wide (k' := 14) (n' := 84) (Nat.le_of_ble_eq_true rfl) (Nat.le_of_ble_eq_true rfl) ?_
            exact hJ
          · replace h := ifn c41 h
            refine K_aload_n (pc := 131) dL_drives_131 rfl 0 rfl ?_
            refine K_iconst (v := (4 : Int32)) (pc := 132) dL_drives_132 (by decide) ?_
            refine K_iconst (v := (0 : Int32)) (pc := 133) dL_drives_133 (by decide) ?_
            refine K_iconst (v := (0 : Int32)) (pc := 134) dL_drives_134 (by decide) ?_
            refine K_iconst (v := (0 : Int32)) (pc := 135) dL_drives_135 (by decide) ?_
            obtain ⟨v42, M43, hc44, h⟩ := obind2_e h
            refine K_callS0 (g := mi_L_call) (pc := 136) [.ref 0, .int (4 : Int32), .int (0 : Int32), .int (0 : Int32), .int (0 : Int32)] [.ref 0, .int (4 : Int32), .int (0 : Int32), .int (0 : Int32), .int (0 : Int32)] [] ms_L_call w_431 (k_L_call (E := eo E)  (4 : Int32) (0 : Int32) (0 : Int32) (0 : Int32) _ hc44) rfl rfl rfl rfl ⟨⟨Nat.le_of_ble_eq_true rfl, Nat.le_of_ble_eq_true rfl⟩, Nat.le_of_ble_eq_true rfl, Nat.le_of_ble_eq_true rfl⟩ (Nat.le_of_ble_eq_true rfl) dL_drives_136 (Kk_vk 8 48 rfl rfl fun hok45 => ?_)
            refine K_iload_n (pc := 139) dL_drives_139 rfl 2 rfl ?_
            refine K_icmp_ne (pc := 140) (tgt := 215) dL_drives_140 (by decide) (fun c46 => ?_) (fun c46 => ?_)
            · replace h := ifn c46 h
              refine K_iconst (v := (0 : Int32)) (pc := 215) dL_drives_215 (by decide) ?_
              cases h
              refine K_sub [0, 1, 2, 3] rfl ?_
              refine K_wide (k' := 14) (n' := 84) (Nat.le_of_ble_eq_true rfl) (Nat.le_of_ble_eq_true rfl) ?_
              exact hJ
            · replace h := ifp c46 h
              refine K_aload_n (pc := 143) dL_drives_143 rfl 1 rfl ?_
              refine K_iconst (v := (4 : Int32)) (pc := 144) dL_drives_144 (by decide) ?_
              refine K_iconst (v := (0 : Int32)) (pc := 145) dL_drives_145 (by decide) ?_
              refine K_iconst (v := (0 : Int32)) (pc := 146) dL_drives_146 (by decide) ?_
              refine K_iconst (v := (0 : Int32)) (pc := 147) dL_drives_147 (by decide) ?_
              obtain ⟨v47, M48, hc49, h⟩ := obind2_e h
              refine K_callS1 (g := mi_L_call) (pc := 148) [.ref 0, .int (4 : Int32), .int (0 : Int32), .int (0 : Int32), .int (0 : Int32)] [.ref 1, .int (4 : Int32), .int (0 : Int32), .int (0 : Int32), .int (0 : Int32)] [] ms_L_call w_431 (k_L_call (E := ep E)  (4 : Int32) (0 : Int32) (0 : Int32) (0 : Int32) _ hc49) rfl rfl rfl rfl ⟨⟨Nat.le_of_ble_eq_true rfl, Nat.le_of_ble_eq_true rfl⟩, Nat.le_of_ble_eq_true rfl, Nat.le_of_ble_eq_true rfl⟩ (Nat.le_of_ble_eq_true rfl) dL_drives_148 (Kk_vk 10 60 rfl rfl fun hok50 => ?_)
              refine K_iload_n (pc := 151) dL_drives_151 rfl 2 rfl ?_
              refine K_icmp_ne (pc := 152) (tgt := 215) dL_drives_152 (by decide) (fun c51 => ?_) (fun c51 => ?_)
              · replace h := ifn c51 h
                refine K_iconst (v := (0 : Int32)) (pc := 215) dL_drives_215 (by decide) ?_
                cases h
                refine K_sub [0, 1, 2, 3] rfl ?_
                refine K_wide (k' := 14) (n' := 84) (Nat.le_of_ble_eq_true rfl) (Nat.le_of_ble_eq_true rfl) ?_
                exact hJ
              · replace h := ifp c51 h
                refine K_aload_n (pc := 155) dL_drives_155 rfl 0 rfl ?_
                refine K_callV0 (g := mi_X3_isOut) (pc := 156) [] [] mv_X3_isOut w_890 (k_X3_isOut (E := eo E)  _) rfl rfl rfl rfl rfl ⟨⟨Nat.le_of_ble_eq_true rfl, Nat.le_of_ble_eq_true rfl⟩, Nat.le_of_ble_eq_true rfl, Nat.le_of_ble_eq_true rfl⟩ (Nat.le_of_ble_eq_true rfl) dL_drives_156 (Kk_v rfl rfl fun hok52 => ?_)
                refine K_if_eq (pc := 159) (tgt := 215) dL_drives_159 (by decide) (fun c53 => ?_) (fun c53 => ?_)
                · replace h := ifp c53 h
                  refine K_iconst (v := (0 : Int32)) (pc := 215) dL_drives_215 (by decide) ?_
                  cases h
                  refine K_sub [0, 1, 2, 3] rfl ?_
                  refine K_wide (k' := 14) (n' := 84) (Nat.le_of_ble_eq_true rfl) (Nat.le_of_ble_eq_true rfl) ?_
                  exact hJ
                · replace h := ifn c53 h
                  refine K_aload_n (pc := 162) dL_drives_162 rfl 0 rfl ?_
                  obtain ⟨v54, M55, hc56, h⟩ := obind2_e h
                  refine K_callV0 (g := mi_X3_fewestSlides) (pc := 163) [] [] mv_X3_fewestSlides w_907 (k_X3_fewestSlides (E := eo E)  _ hc56) rfl rfl rfl rfl rfl ⟨⟨Nat.le_of_ble_eq_true rfl, Nat.le_of_ble_eq_true rfl⟩, Nat.le_of_ble_eq_true rfl, Nat.le_of_ble_eq_true rfl⟩ (Nat.le_of_ble_eq_true rfl) dL_drives_163 (Kk_v rfl rfl fun hok57 => ?_)
                  refine K_if_ne (pc := 166) (tgt := 215) dL_drives_166 (by decide) (fun c58 => ?_) (fun c58 => ?_)
                  · replace h := ifn c58 h
                    refine K_iconst (v := (0 : Int32)) (pc := 215) dL_drives_215 (by decide) ?_
                    cases h
                    refine K_sub [0, 1, 2, 3] rfl ?_
                    refine K_wide (k' := 14) (n' := 84) (Nat.le_of_ble_eq_true rfl) (Nat.le_of_ble_eq_true rfl) ?_
                    exact hJ
                  · replace h := ifp c58 h
                    refine K_aload_n (pc := 169) dL_drives_169 rfl 0 rfl ?_
                    refine K_callV0 (g := mi_X3_logged) (pc := 170) [] [] mv_X3_logged w_885 (k_X3_logged (E := eo E)  _) rfl rfl rfl rfl rfl ⟨⟨Nat.le_of_ble_eq_true rfl, Nat.le_of_ble_eq_true rfl⟩, Nat.le_of_ble_eq_true rfl, Nat.le_of_ble_eq_true rfl⟩ (Nat.le_of_ble_eq_true rfl) dL_drives_170 (Kk_v rfl rfl fun hok59 => ?_)
                    refine K_iload_n (pc := 173) dL_drives_173 rfl 3 rfl ?_
                    refine K_iload_n (pc := 174) dL_drives_174 rfl 2 rfl ?_
                    refine K_iadd (pc := 175) dL_drives_175 ?_
                    refine K_icmp_ne (pc := 176) (tgt := 215) dL_drives_176 (by decide) (fun c60 => ?_) (fun c60 => ?_)
                    · replace h := ifn c60 h
                      refine K_iconst (v := (0 : Int32)) (pc := 215) dL_drives_215 (by decide) ?_
                      cases h
                      refine K_sub [0, 1, 2, 3] rfl ?_
                      refine K_wide (k' := 14) (n' := 84) (Nat.le_of_ble_eq_true rfl) (Nat.le_of_ble_eq_true rfl) ?_
                      exact hJ
                    · replace h := ifp c60 h
                      refine K_iload_n (pc := 179) dL_drives_179 rfl 2 rfl ?_
                      refine K_if_eq (pc := 180) (tgt := 211) dL_drives_180 (by decide) (fun c61 => ?_) (fun c61 => ?_)
                      · replace h := ifp c61 h
                        refine K_iconst (v := (1 : Int32)) (pc := 211) dL_drives_211 (by decide) ?_
                        refine K_goto (pc := 212) (tgt := 216) dL_drives_212 (by decide) ?_
                        cases h
                        refine K_sub [0, 1, 2, 3] rfl ?_
                        refine K_wide (k' := 14) (n' := 84) (Nat.le_of_ble_eq_true rfl) (Nat.le_of_ble_eq_true rfl) ?_
                        exact hJ
                      · replace h := ifn c61 h
                        refine K_aload_n (pc := 183) dL_drives_183 rfl 0 rfl ?_
                        refine K_bipush (v := (14 : Int32)) (pc := 184) dL_drives_184 (by decide) ?_
                        refine K_iload_n (pc := 186) dL_drives_186 rfl 3 rfl ?_
                        refine K_iconst (v := (0 : Int32)) (pc := 187) dL_drives_187 (by decide) ?_
                        refine K_iconst (v := (0 : Int32)) (pc := 188) dL_drives_188 (by decide) ?_
                        obtain ⟨v62, M63, hc64, h⟩ := obind2_e h
                        refine K_callS0 (g := mi_L_call) (pc := 189) [.ref 0, .int (14 : Int32), .int v6, .int (0 : Int32), .int (0 : Int32)] [.ref 0, .int (14 : Int32), .int v6, .int (0 : Int32), .int (0 : Int32)] [] ms_L_call w_431 (k_L_call (E := eo E)  (14 : Int32) v6 (0 : Int32) (0 : Int32) _ hc64) rfl rfl rfl rfl ⟨⟨Nat.le_of_ble_eq_true rfl, Nat.le_of_ble_eq_true rfl⟩, Nat.le_of_ble_eq_true rfl, Nat.le_of_ble_eq_true rfl⟩ (Nat.le_of_ble_eq_true rfl) dL_drives_189 (Kk_vk 12 72 rfl rfl fun hok65 => ?_)
                        refine K_iload (pc := 192) dL_drives_192 4 rfl ?_
                        refine K_icmp_ne (pc := 194) (tgt := 215) dL_drives_194 (by decide) (fun c66 => ?_) (fun c66 => ?_)
                        · replace h := ifn c66 h
                          refine K_iconst (v := (0 : Int32)) (pc := 215) dL_drives_215 (by decide) ?_
                          cases h
                          refine K_sub [0, 1, 2, 3] rfl ?_
                          refine K_wide (k' := 14) (n' := 84) (Nat.le_of_ble_eq_true rfl) (Nat.le_of_ble_eq_true rfl) ?_
                          exact hJ
                        · replace h := ifp c66 h
                          refine K_aload_n (pc := 197) dL_drives_197 rfl 0 rfl ?_
                          refine K_bipush (v := (15 : Int32)) (pc := 198) dL_drives_198 (by decide) ?_
                          refine K_iload_n (pc := 200) dL_drives_200 rfl 3 rfl ?_
                          refine K_iconst (v := (0 : Int32)) (pc := 201) dL_drives_201 (by decide) ?_
                          refine K_iconst (v := (0 : Int32)) (pc := 202) dL_drives_202 (by decide) ?_
                          obtain ⟨v67, M68, hc69, h⟩ := obind2_e h
                          refine K_callS0 (g := mi_L_call) (pc := 203) [.ref 0, .int (15 : Int32), .int v6, .int (0 : Int32), .int (0 : Int32)] [.ref 0, .int (15 : Int32), .int v6, .int (0 : Int32), .int (0 : Int32)] [] ms_L_call w_431 (k_L_call (E := eo E)  (15 : Int32) v6 (0 : Int32) (0 : Int32) _ hc69) rfl rfl rfl rfl ⟨⟨Nat.le_of_ble_eq_true rfl, Nat.le_of_ble_eq_true rfl⟩, Nat.le_of_ble_eq_true rfl, Nat.le_of_ble_eq_true rfl⟩ (Nat.le_of_ble_eq_true rfl) dL_drives_203 (Kk_vk 14 84 rfl rfl fun hok70 => ?_)
                          refine K_iload (pc := 206) dL_drives_206 5 rfl ?_
                          refine K_icmp_ne (pc := 208) (tgt := 215) dL_drives_208 (by decide) (fun c71 => ?_) (fun c71 => ?_)
                          · replace h := ifn c71 h
                            refine K_iconst (v := (0 : Int32)) (pc := 215) dL_drives_215 (by decide) ?_
                            cases h
                            refine K_sub [0, 1, 2, 3] rfl ?_
                            exact hJ
                          · replace h := ifp c71 h
                            refine K_iconst (v := (1 : Int32)) (pc := 211) dL_drives_211 (by decide) ?_
                            refine K_goto (pc := 212) (tgt := 216) dL_drives_212 (by decide) ?_
                            cases h
                            refine K_sub [0, 1, 2, 3] rfl ?_
                            exact hJ
      · replace h := hv38
        refine K_if_ne (pc := 77) (tgt := 102) dL_drives_77 (by decide) (fun c30 => ?_) (fun c30 => ?_)
        · replace h := ifn c30 h
          refine K_aload_n (pc := 102) dL_drives_102 rfl 0 rfl ?_
          refine K_bipush (v := (19 : Int32)) (pc := 103) dL_drives_103 (by decide) ?_
          refine K_iload (pc := 105) dL_drives_105 4 rfl ?_
          refine K_iload (pc := 107) dL_drives_107 5 rfl ?_
          refine K_iconst (v := (0 : Int32)) (pc := 109) dL_drives_109 (by decide) ?_
          obtain ⟨v31, M32, hc33, h⟩ := obind2_e h
          refine K_callS0 (g := mi_L_call) (pc := 110) [.ref 0, .int (19 : Int32), .int v20, .int v24, .int (0 : Int32)] [.ref 0, .int (19 : Int32), .int v20, .int v24, .int (0 : Int32)] [] ms_L_call w_431 (k_L_call (E := eo E)  (19 : Int32) v20 v24 (0 : Int32) _ hc33) rfl rfl rfl rfl ⟨⟨Nat.le_of_ble_eq_true rfl, Nat.le_of_ble_eq_true rfl⟩, Nat.le_of_ble_eq_true rfl, Nat.le_of_ble_eq_true rfl⟩ (Nat.le_of_ble_eq_true rfl) dL_drives_110 (Kk_vk 6 36 rfl rfl fun hok34 => ?_)
          refine K_iload_n (pc := 113) dL_drives_113 rfl 2 rfl ?_
          refine K_iconst (v := (1 : Int32)) (pc := 114) dL_drives_114 (by decide) ?_
          refine K_isub (pc := 115) dL_drives_115 ?_
          refine K_icmp_ne (pc := 116) (tgt := 123) dL_drives_116 (by decide) (fun c35 => ?_) (fun c35 => ?_)
          · replace h := ifn c35 h
            refine K_iconst (v := (0 : Int32)) (pc := 123) dL_drives_123 (by decide) ?_
            cases h
            exact hJ
          · replace h := ifp c35 h
            refine K_iconst (v := (1 : Int32)) (pc := 119) dL_drives_119 (by decide) ?_
            refine K_goto (pc := 120) (tgt := 124) dL_drives_120 (by decide) ?_
            cases h
            exact hJ
        · replace h := ifp c30 h
          refine K_iload (pc := 80) dL_drives_80 4 rfl ?_
          refine K_ldc (pc := 82) w_575 dL_drives_82 ?_
          refine K_icmp_ne (pc := 84) (tgt := 98) dL_drives_84 (by decide) (fun c36 => ?_) (fun c36 => ?_)
          · replace h := ifn c36 h
            refine K_iconst (v := (0 : Int32)) (pc := 98) dL_drives_98 (by decide) ?_
            refine K_goto (pc := 99) (tgt := 124) dL_drives_99 (by decide) ?_
            cases h
            refine K_wide (k' := 6) (n' := 36) (Nat.le_of_ble_eq_true rfl) (Nat.le_of_ble_eq_true rfl) ?_
            exact hJ
          · replace h := ifp c36 h
            refine K_iload (pc := 87) dL_drives_87 5 rfl ?_
            refine K_ldc (pc := 89) w_575 dL_drives_89 ?_
            refine K_icmp_ne (pc := 91) (tgt := 98) dL_drives_91 (by decide) (fun c37 => ?_) (fun c37 => ?_)
            · replace h := ifn c37 h
              refine K_iconst (v := (0 : Int32)) (pc := 98) dL_drives_98 (by decide) ?_
              refine K_goto (pc := 99) (tgt := 124) dL_drives_99 (by decide) ?_
              cases h
              refine K_wide (k' := 6) (n' := 36) (Nat.le_of_ble_eq_true rfl) (Nat.le_of_ble_eq_true rfl) ?_
              exact hJ
            · replace h := ifp c37 h
              refine K_iconst (v := (1 : Int32)) (pc := 94) dL_drives_94 (by decide) ?_
              refine K_goto (pc := 95) (tgt := 124) dL_drives_95 (by decide) ?_
              cases h
              refine K_wide (k' := 6) (n' := 36) (Nat.le_of_ble_eq_true rfl) (Nat.le_of_ble_eq_true rfl) ?_
              exact hJ
    · replace h := ifn c19 h
      refine K_aload_n (pc := 22) dL_drives_22 rfl 0 rfl ?_
      refine K_iconst (v := (4 : Int32)) (pc := 23) dL_drives_23 (by decide) ?_
      refine K_iconst (v := (0 : Int32)) (pc := 24) dL_drives_24 (by decide) ?_
      refine K_iconst (v := (0 : Int32)) (pc := 25) dL_drives_25 (by decide) ?_
      refine K_iconst (v := (0 : Int32)) (pc := 26) dL_drives_26 (by decide) ?_
      obtain ⟨v86, M87, hc88, h⟩ := obind2_e h
      refine K_callS0 (g := mi_L_call) (pc := 27) [.ref 0, .int (4 : Int32), .int (0 : Int32), .int (0 : Int32), .int (0 : Int32)] [.ref 0, .int (4 : Int32), .int (0 : Int32), .int (0 : Int32), .int (0 : Int32)] [] ms_L_call w_431 (k_L_call (E := eo E)  (4 : Int32) (0 : Int32) (0 : Int32) (0 : Int32) _ hc88) rfl rfl rfl rfl ⟨⟨Nat.le_of_ble_eq_true rfl, Nat.le_of_ble_eq_true rfl⟩, Nat.le_of_ble_eq_true rfl, Nat.le_of_ble_eq_true rfl⟩ (Nat.le_of_ble_eq_true rfl) dL_drives_27 (Kk_vk 2 12 rfl rfl fun hok89 => ?_)
      refine K_ldc (pc := 30) w_575 dL_drives_30 ?_
      refine K_icmp_ne (pc := 32) (tgt := 52) dL_drives_32 (by decide) (fun c90 => ?_) (fun c90 => ?_)
      · replace h := ifn c90 h
        refine K_iconst (v := (0 : Int32)) (pc := 52) dL_drives_52 (by decide) ?_
        cases h
        refine K_wide (k' := 14) (n' := 84) (Nat.le_of_ble_eq_true rfl) (Nat.le_of_ble_eq_true rfl) ?_
        exact K_zreturn dL_drives_53 rfl (Or.inl rfl) rfl rfl rfl rfl
      · replace h := ifp c90 h
        refine K_aload_n (pc := 35) dL_drives_35 rfl 1 rfl ?_
        refine K_iconst (v := (4 : Int32)) (pc := 36) dL_drives_36 (by decide) ?_
        refine K_iconst (v := (0 : Int32)) (pc := 37) dL_drives_37 (by decide) ?_
        refine K_iconst (v := (0 : Int32)) (pc := 38) dL_drives_38 (by decide) ?_
        refine K_iconst (v := (0 : Int32)) (pc := 39) dL_drives_39 (by decide) ?_
        obtain ⟨v91, M92, hc93, h⟩ := obind2_e h
        refine K_callS1 (g := mi_L_call) (pc := 40) [.ref 0, .int (4 : Int32), .int (0 : Int32), .int (0 : Int32), .int (0 : Int32)] [.ref 1, .int (4 : Int32), .int (0 : Int32), .int (0 : Int32), .int (0 : Int32)] [] ms_L_call w_431 (k_L_call (E := ep E)  (4 : Int32) (0 : Int32) (0 : Int32) (0 : Int32) _ hc93) rfl rfl rfl rfl ⟨⟨Nat.le_of_ble_eq_true rfl, Nat.le_of_ble_eq_true rfl⟩, Nat.le_of_ble_eq_true rfl, Nat.le_of_ble_eq_true rfl⟩ (Nat.le_of_ble_eq_true rfl) dL_drives_40 (Kk_vk 4 24 rfl rfl fun hok94 => ?_)
        refine K_ldc (pc := 43) w_575 dL_drives_43 ?_
        refine K_icmp_ne (pc := 45) (tgt := 52) dL_drives_45 (by decide) (fun c95 => ?_) (fun c95 => ?_)
        · replace h := ifn c95 h
          refine K_iconst (v := (0 : Int32)) (pc := 52) dL_drives_52 (by decide) ?_
          cases h
          refine K_wide (k' := 14) (n' := 84) (Nat.le_of_ble_eq_true rfl) (Nat.le_of_ble_eq_true rfl) ?_
          exact K_zreturn dL_drives_53 rfl (Or.inl rfl) rfl rfl rfl rfl
        · replace h := ifp c95 h
          refine K_iconst (v := (1 : Int32)) (pc := 48) dL_drives_48 (by decide) ?_
          refine K_goto (pc := 49) (tgt := 53) dL_drives_49 (by decide) ?_
          cases h
          refine K_wide (k' := 14) (n' := 84) (Nat.le_of_ble_eq_true rfl) (Nat.le_of_ble_eq_true rfl) ?_
          exact K_zreturn dL_drives_53 rfl (Or.inr rfl) rfl rfl rfl rfl
set_option maxHeartbeats 4000000 in
set_option maxRecDepth 100000 in
theorem k_L_slides {E : En2} (a2 : Int32) (M : Wd2) {r : Int32} {M' : Wd2} (h : F_L_slides a2 M = some (r, M')) : Con2 E mi_L_slides [.ref 0, .ref 1, .int a2] M (.inl (some (.int r))) M' := by
  unfold F_L_slides at h
  refine Con2.of (by decide) rfl (Nat.le_of_ble_eq_true rfl) (fun κ => ?_)
  show K κ E mi_L_slides _ 0 0 [(0, .ref 0), (1, .ref 1), (2, .int a2)] M 0 []
  refine K_aload_n (pc := 0) dL_slides_0 rfl 0 rfl ?_
  refine K_callV0 (g := mi_X3_cars) (pc := 1) [] [] mv_X3_cars w_427 (k_X3_cars (E := eo E)  _) rfl rfl rfl rfl rfl ⟨⟨Nat.le_of_ble_eq_true rfl, Nat.le_of_ble_eq_true rfl⟩, Nat.le_of_ble_eq_true rfl, Nat.le_of_ble_eq_true rfl⟩ (Nat.le_of_ble_eq_true rfl) dL_slides_1 (Kk_v rfl rfl fun hok1 => ?_)
  refine K_if_eq (pc := 4) (tgt := 16) dL_slides_4 (by decide) (fun c2 => ?_) (fun c2 => ?_)
  · replace h := ifp c2 h
    refine K_iconst (v := (1 : Int32)) (pc := 16) dL_slides_16 (by decide) ?_
    cases h
    refine K_wide (k' := 22) (n' := 132) (Nat.le_of_ble_eq_true rfl) (Nat.le_of_ble_eq_true rfl) ?_
    exact K_zreturn dL_slides_17 rfl (Or.inr rfl) rfl rfl rfl rfl
  · replace h := ifn c2 h
    refine K_aload_n (pc := 7) dL_slides_7 rfl 0 rfl ?_
    refine K_callV0 (g := mi_X3_logged) (pc := 8) [] [] mv_X3_logged w_885 (k_X3_logged (E := eo E)  _) rfl rfl rfl rfl rfl ⟨⟨Nat.le_of_ble_eq_true rfl, Nat.le_of_ble_eq_true rfl⟩, Nat.le_of_ble_eq_true rfl, Nat.le_of_ble_eq_true rfl⟩ (Nat.le_of_ble_eq_true rfl) dL_slides_8 (Kk_v rfl rfl fun hok3 => ?_)
    refine K_bipush (v := (60 : Int32)) (pc := 11) dL_slides_11 (by decide) ?_
    refine K_icmp_ne (pc := 13) (tgt := 18) dL_slides_13 (by decide) (fun c4 => ?_) (fun c4 => ?_)
    · replace h := ifn c4 h
      refine K_iload_n (pc := 18) dL_slides_18 rfl 2 rfl ?_
      refine K_aload_n (pc := 19) dL_slides_19 rfl 0 rfl ?_
      refine K_callV0 (g := mi_X3_cars) (pc := 20) [] [.int a2] mv_X3_cars w_427 (k_X3_cars (E := eo E)  _) rfl rfl rfl rfl rfl ⟨⟨Nat.le_of_ble_eq_true rfl, Nat.le_of_ble_eq_true rfl⟩, Nat.le_of_ble_eq_true rfl, Nat.le_of_ble_eq_true rfl⟩ (Nat.le_of_ble_eq_true rfl) dL_slides_20 (Kk_v rfl rfl fun hok5 => ?_)
      obtain ⟨hn6, h⟩ := grd_e h
      refine K_irem (pc := 23) dL_slides_23 hn6 ?_
      obtain ⟨v7, e8, h⟩ := bnd_e h
      refine K_topi e8 ?_
      refine K_istore_n (pc := 24) dL_slides_24 rfl (Nat.le_of_ble_eq_true rfl) [1, 2, 3, 0] rfl ?_
      refine K_iload_n (pc := 25) dL_slides_25 rfl 2 rfl ?_
      refine K_bipush (v := (8 : Int32)) (pc := 26) dL_slides_26 (by decide) ?_
      refine K_idiv (pc := 28) dL_slides_28 (by decide) ?_
      refine K_iconst (v := (2 : Int32)) (pc := 29) dL_slides_29 (by decide) ?_
      refine K_irem (pc := 30) dL_slides_30 (by decide) ?_
      obtain ⟨v9, e10, h⟩ := bnd_e h
      have hb12 : isB v9 := by rw [e10]; repeat (first | exact Or.inl rfl | exact Or.inr rfl | assumption | exact okB_b (by assumption) | apply isB_ite)
      refine K_join [(0, .ref 0), (1, .ref 1), (2, .int a2), (3, .int v7)] M 39 [.int v9] ?_ (fun hJ => ?_)
      · refine K_istore (pc := 39) dL_slides_39 (Nat.le_of_ble_eq_true rfl) [1, 2, 3, 4, 0] rfl ?_
        refine K_aload_n (pc := 41) dL_slides_41 rfl 0 rfl ?_
        refine K_iload_n (pc := 42) dL_slides_42 rfl 3 rfl ?_
        refine K_iload (pc := 43) dL_slides_43 4 rfl ?_
        obtain ⟨v13, M14, hc15, h⟩ := obind2_e h
        refine K_callSX0 (g := mi_L_room) (pc := 45) [.ref 0, .int v7, .int v9] [.ref 0, .int v7, .int v9] [] ms_L_room w_878 (k_L_room (E := eo E)  v7 v9 _ hc15) rfl rfl rfl rfl ⟨⟨Nat.le_of_ble_eq_true rfl, Nat.le_of_ble_eq_true rfl⟩, Nat.le_of_ble_eq_true rfl, Nat.le_of_ble_eq_true rfl⟩ (Nat.le_of_ble_eq_true rfl) dL_slides_45 (Kk_vk 1 6 rfl rfl fun hok16 => ?_)
        refine K_istore (pc := 48) dL_slides_48 (Nat.le_of_ble_eq_true rfl) [1, 2, 3, 4, 5, 0] rfl ?_
        refine K_LS [(0, .ref 0), (1, .ref 1), (2, .int a2), (3, .int v7), (4, .int v9), (5, .int v13)] [] rfl rfl ?_
        refine K_iload (pc := 50) dL_slides_50 5 rfl ?_
        refine K_if_ne (pc := 52) (tgt := 105) dL_slides_52 (by decide) (fun c17 => ?_) (fun c17 => ?_)
        · replace h := ifn c17 h
          refine K_iconst (v := (1 : Int32)) (pc := 105) dL_slides_105 (by decide) ?_
          refine K_iload_n (pc := 106) dL_slides_106 rfl 2 rfl ?_
          refine K_bipush (v := (16 : Int32)) (pc := 107) dL_slides_107 (by decide) ?_
          refine K_idiv (pc := 109) dL_slides_109 (by decide) ?_
          refine K_iload (pc := 110) dL_slides_110 5 rfl ?_
          obtain ⟨hn18, h⟩ := grd_e h
          refine K_irem (pc := 112) dL_slides_112 hn18 ?_
          refine K_iadd (pc := 113) dL_slides_113 ?_
          obtain ⟨v19, e20, h⟩ := bnd_e h
          refine K_topi e20 ?_
          refine K_istore (pc := 114) dL_slides_114 (Nat.le_of_ble_eq_true rfl) [1, 2, 3, 4, 5, 6, 0] rfl ?_
          refine K_iload (pc := 116) dL_slides_116 4 rfl ?_
          obtain ⟨v21, e22, h⟩ := bnd_e h
          refine K_join [(0, .ref 0), (1, .ref 1), (3, .int v7), (4, .int v9), (6, .int v19)] (M14, M.2) 129 [.int v21] ?_ (fun hJ => ?_)
          · refine K_istore (pc := 129) dL_slides_129 (Nat.le_of_ble_eq_true rfl) [1, 2, 3, 4, 5, 0] rfl ?_
            refine K_aload_n (pc := 131) dL_slides_131 rfl 0 rfl ?_
            refine K_bipush (v := (11 : Int32)) (pc := 132) dL_slides_132 (by decide) ?_
            refine K_iload_n (pc := 134) dL_slides_134 rfl 2 rfl ?_
            refine K_iconst (v := (0 : Int32)) (pc := 135) dL_slides_135 (by decide) ?_
            refine K_iconst (v := (0 : Int32)) (pc := 136) dL_slides_136 (by decide) ?_
            obtain ⟨v24, M25, hc26, h⟩ := obind2_e h
            refine K_callS0 (g := mi_L_call) (pc := 137) [.ref 0, .int (11 : Int32), .int v7, .int (0 : Int32), .int (0 : Int32)] [.ref 0, .int (11 : Int32), .int v7, .int (0 : Int32), .int (0 : Int32)] [] ms_L_call w_431 (k_L_call (E := eo E)  (11 : Int32) v7 (0 : Int32) (0 : Int32) _ hc26) rfl rfl rfl rfl ⟨⟨Nat.le_of_ble_eq_true rfl, Nat.le_of_ble_eq_true rfl⟩, Nat.le_of_ble_eq_true rfl, Nat.le_of_ble_eq_true rfl⟩ (Nat.le_of_ble_eq_true rfl) dL_slides_137 (Kk_vk 3 18 rfl rfl fun hok27 => ?_)
            refine K_istore (pc := 140) dL_slides_140 (Nat.le_of_ble_eq_true rfl) [1, 2, 3, 4, 5, 6, 0] rfl ?_
            refine K_LS [(0, .ref 0), (1, .ref 1), (3, .int v7), (4, .int v9), (6, .int v19), (7, .int v21), (8, .int v24)] [] rfl rfl ?_
            refine K_aload_n (pc := 142) dL_slides_142 rfl 0 rfl ?_
            obtain ⟨v28, hc29, h⟩ := obind_e h
            refine K_callV0 (g := mi_X3_fuel) (pc := 143) [] [] mv_X3_fuel w_896 (k_X3_fuel (E := eo E)  _ hc29) rfl rfl rfl rfl rfl ⟨⟨Nat.le_of_ble_eq_true rfl, Nat.le_of_ble_eq_true rfl⟩, Nat.le_of_ble_eq_true rfl, Nat.le_of_ble_eq_true rfl⟩ (Nat.le_of_ble_eq_true rfl) dL_slides_143 (Kk_v rfl rfl fun hok30 => ?_)
            refine K_istore (pc := 146) dL_slides_146 (Nat.le_of_ble_eq_true rfl) [1, 2, 3, 4, 5, 6, 7, 0] rfl ?_
            refine K_aload_n (pc := 148) dL_slides_148 rfl 0 rfl ?_
            refine K_callV0 (g := mi_X3_logged) (pc := 149) [] [] mv_X3_logged w_885 (k_X3_logged (E := eo E)  _) rfl rfl rfl rfl rfl ⟨⟨Nat.le_of_ble_eq_true rfl, Nat.le_of_ble_eq_true rfl⟩, Nat.le_of_ble_eq_true rfl, Nat.le_of_ble_eq_true rfl⟩ (Nat.le_of_ble_eq_true rfl) dL_slides_149 (Kk_v rfl rfl fun hok31 => ?_)
            obtain ⟨v32, e33, h⟩ := bnd_e h
            refine K_topi e33 ?_
            refine K_istore (pc := 152) dL_slides_152 (Nat.le_of_ble_eq_true rfl) [1, 2, 3, 4, 5, 6, 7, 8, 0] rfl ?_
            refine K_LS [(0, .ref 0), (1, .ref 1), (3, .int v7), (4, .int v9), (6, .int v19), (7, .int v21), (8, .int v24), (9, .int v28), (10, .int v32)] [] rfl rfl ?_
            refine K_aload_n (pc := 154) dL_slides_154 rfl 0 rfl ?_
            refine K_iconst (v := (2 : Int32)) (pc := 155) dL_slides_155 (by decide) ?_
            refine K_iload_n (pc := 156) dL_slides_156 rfl 2 rfl ?_
            refine K_iload (pc := 157) dL_slides_157 5 rfl ?_
            refine K_iconst (v := (0 : Int32)) (pc := 159) dL_slides_159 (by decide) ?_
            obtain ⟨v34, M35, hc36, h⟩ := obind2_e h
            refine K_callS0 (g := mi_L_call) (pc := 160) [.ref 0, .int (2 : Int32), .int v7, .int v21, .int (0 : Int32)] [.ref 0, .int (2 : Int32), .int v7, .int v21, .int (0 : Int32)] [] ms_L_call w_431 (k_L_call (E := eo E)  (2 : Int32) v7 v21 (0 : Int32) _ hc36) rfl rfl rfl rfl ⟨⟨Nat.le_of_ble_eq_true rfl, Nat.le_of_ble_eq_true rfl⟩, Nat.le_of_ble_eq_true rfl, Nat.le_of_ble_eq_true rfl⟩ (Nat.le_of_ble_eq_true rfl) dL_slides_160 (Kk_vk 5 30 rfl rfl fun hok37 => ?_)
            refine K_iload (pc := 163) dL_slides_163 6 rfl ?_
            refine K_iload (pc := 165) dL_slides_165 5 rfl ?_
            refine K_iadd (pc := 167) dL_slides_167 ?_
            obtain ⟨v38, M39, hv94, h⟩ := obind2_e h
            refine K_joinW 20 120 [(0, .ref 0), (1, .ref 1), (3, .int v7), (8, .int v24), (10, .int v32)] M39 322 [.int v38] ?_ (fun hJ => ?_)
            · refine K_istore (pc := 322) dL_slides_322 (Nat.le_of_ble_eq_true rfl) [1, 2, 3, 4, 5, 0] rfl ?_
              refine K_iload (pc := 324) dL_slides_324 5 rfl ?_
              refine K_if_eq (pc := 326) (tgt := 365) dL_slides_326 (by decide) (fun c95 => ?_) (fun c95 => ?_)
              · replace h := ifp c95 h
                refine K_iconst (v := (0 : Int32)) (pc := 365) dL_slides_365 (by decide) ?_
                cases h
                refine K_wide (k' := 22) (n' := 132) (Nat.le_of_ble_eq_true rfl) (Nat.le_of_ble_eq_true rfl) ?_
                exact K_zreturn dL_slides_366 rfl (Or.inl rfl) rfl rfl rfl rfl
              · replace h := ifn c95 h
                refine K_aload_n (pc := 329) dL_slides_329 rfl 0 rfl ?_
                refine K_aload_n (pc := 330) dL_slides_330 rfl 1 rfl ?_
                refine K_iconst (v := (2 : Int32)) (pc := 331) dL_slides_331 (by decide) ?_
                obtain ⟨v96, M97, hc98, h⟩ := obind2_e h
                refine K_callS (g := mi_L_undoes) (pc := 332) [.ref 0, .ref 1, .int (2 : Int32)] [] ms_L_undoes w_964 (k_L_undoes  (2 : Int32) _ hc98) rfl rfl ⟨⟨Nat.le_of_ble_eq_true rfl, Nat.le_of_ble_eq_true rfl⟩, Nat.le_of_ble_eq_true rfl, Nat.le_of_ble_eq_true rfl⟩ (Nat.le_of_ble_eq_true rfl) dL_slides_332 (Kk_v rfl rfl fun hok99 => ?_)
                refine K_if_eq (pc := 335) (tgt := 365) dL_slides_335 (by decide) (fun c100 => ?_) (fun c100 => ?_)
                · replace h := ifp c100 h
                  refine K_iconst (v := (0 : Int32)) (pc := 365) dL_slides_365 (by decide) ?_
                  cases h
                  refine K_wide (k' := 22) (n' := 132) (Nat.le_of_ble_eq_true rfl) (Nat.le_of_ble_eq_true rfl) ?_
                  exact K_zreturn dL_slides_366 rfl (Or.inl rfl) rfl rfl rfl rfl
                · replace h := ifn c100 h
                  refine K_aload_n (pc := 338) dL_slides_338 rfl 0 rfl ?_
                  refine K_callV0 (g := mi_X3_logged) (pc := 339) [] [] mv_X3_logged w_885 (k_X3_logged (E := eo E)  _) rfl rfl rfl rfl rfl ⟨⟨Nat.le_of_ble_eq_true rfl, Nat.le_of_ble_eq_true rfl⟩, Nat.le_of_ble_eq_true rfl, Nat.le_of_ble_eq_true rfl⟩ (Nat.le_of_ble_eq_true rfl) dL_slides_339 (Kk_v rfl rfl fun hok101 => ?_)
                  refine K_iload (pc := 342) dL_slides_342 4 rfl ?_
                  refine K_icmp_ne (pc := 344) (tgt := 365) dL_slides_344 (by decide) (fun c102 => ?_) (fun c102 => ?_)
                  · replace h := ifn c102 h
                    refine K_iconst (v := (0 : Int32)) (pc := 365) dL_slides_365 (by decide) ?_
                    cases h
                    refine K_wide (k' := 22) (n' := 132) (Nat.le_of_ble_eq_true rfl) (Nat.le_of_ble_eq_true rfl) ?_
                    exact K_zreturn dL_slides_366 rfl (Or.inl rfl) rfl rfl rfl rfl
                  · replace h := ifp c102 h
                    refine K_aload_n (pc := 347) dL_slides_347 rfl 0 rfl ?_
                    refine K_bipush (v := (11 : Int32)) (pc := 348) dL_slides_348 (by decide) ?_
                    refine K_iload_n (pc := 350) dL_slides_350 rfl 2 rfl ?_
                    refine K_iconst (v := (0 : Int32)) (pc := 351) dL_slides_351 (by decide) ?_
                    refine K_iconst (v := (0 : Int32)) (pc := 352) dL_slides_352 (by decide) ?_
                    obtain ⟨v103, M104, hc105, h⟩ := obind2_e h
                    refine K_callS0 (g := mi_L_call) (pc := 353) [.ref 0, .int (11 : Int32), .int v7, .int (0 : Int32), .int (0 : Int32)] [.ref 0, .int (11 : Int32), .int v7, .int (0 : Int32), .int (0 : Int32)] [] ms_L_call w_431 (k_L_call (E := eo E)  (11 : Int32) v7 (0 : Int32) (0 : Int32) _ hc105) rfl rfl rfl rfl ⟨⟨Nat.le_of_ble_eq_true rfl, Nat.le_of_ble_eq_true rfl⟩, Nat.le_of_ble_eq_true rfl, Nat.le_of_ble_eq_true rfl⟩ (Nat.le_of_ble_eq_true rfl) dL_slides_353 (Kk_vk 22 132 rfl rfl fun hok106 => ?_)
                    refine K_iload (pc := 356) dL_slides_356 3 rfl ?_
                    refine K_icmp_ne (pc := 358) (tgt := 365) dL_slides_358 (by decide) (fun c107 => ?_) (fun c107 => ?_)
                    · replace h := ifn c107 h
                      refine K_iconst (v := (0 : Int32)) (pc := 365) dL_slides_365 (by decide) ?_
                      cases h
                      refine K_wide (k' := 22) (n' := 132) (Nat.le_of_ble_eq_true rfl) (Nat.le_of_ble_eq_true rfl) ?_
                      exact K_zreturn dL_slides_366 rfl (Or.inl rfl) rfl rfl rfl rfl
                    · replace h := ifp c107 h
                      refine K_iconst (v := (1 : Int32)) (pc := 361) dL_slides_361 (by decide) ?_
                      refine K_goto (pc := 362) (tgt := 366) dL_slides_362 (by decide) ?_
                      cases h
                      refine K_wide (k' := 22) (n' := 132) (Nat.le_of_ble_eq_true rfl) (Nat.le_of_ble_eq_true rfl) ?_
                      exact K_zreturn dL_slides_366 rfl (Or.inr rfl) rfl rfl rfl rfl
            · replace h := hv94
              refine K_icmp_ne (pc := 168) (tgt := 321) dL_slides_168 (by decide) (fun c40 => ?_) (fun c40 => ?_)
              · replace h := ifn c40 h
                refine K_iconst (v := (0 : Int32)) (pc := 321) dL_slides_321 (by decide) ?_
                cases h
                refine K_sub [0, 1, 2, 6, 8] rfl ?_
                refine K_wide (k' := 20) (n' := 120) (Nat.le_of_ble_eq_true rfl) (Nat.le_of_ble_eq_true rfl) ?_
                exact hJ
              · replace h := ifp c40 h
                refine K_aload_n (pc := 171) dL_slides_171 rfl 1 rfl ?_
                refine K_iconst (v := (2 : Int32)) (pc := 172) dL_slides_172 (by decide) ?_
                refine K_iload_n (pc := 173) dL_slides_173 rfl 2 rfl ?_
                refine K_iload (pc := 174) dL_slides_174 5 rfl ?_
                refine K_iconst (v := (0 : Int32)) (pc := 176) dL_slides_176 (by decide) ?_
                obtain ⟨v41, M42, hc43, h⟩ := obind2_e h
                refine K_callS1 (g := mi_L_call) (pc := 177) [.ref 0, .int (2 : Int32), .int v7, .int v21, .int (0 : Int32)] [.ref 1, .int (2 : Int32), .int v7, .int v21, .int (0 : Int32)] [] ms_L_call w_431 (k_L_call (E := ep E)  (2 : Int32) v7 v21 (0 : Int32) _ hc43) rfl rfl rfl rfl ⟨⟨Nat.le_of_ble_eq_true rfl, Nat.le_of_ble_eq_true rfl⟩, Nat.le_of_ble_eq_true rfl, Nat.le_of_ble_eq_true rfl⟩ (Nat.le_of_ble_eq_true rfl) dL_slides_177 (Kk_vk 7 42 rfl rfl fun hok44 => ?_)
                refine K_iload (pc := 180) dL_slides_180 6 rfl ?_
                refine K_iload (pc := 182) dL_slides_182 5 rfl ?_
                refine K_iadd (pc := 184) dL_slides_184 ?_
                refine K_icmp_ne (pc := 185) (tgt := 321) dL_slides_185 (by decide) (fun c45 => ?_) (fun c45 => ?_)
                · replace h := ifn c45 h
                  refine K_iconst (v := (0 : Int32)) (pc := 321) dL_slides_321 (by decide) ?_
                  cases h
                  refine K_sub [0, 1, 2, 6, 8] rfl ?_
                  refine K_wide (k' := 20) (n' := 120) (Nat.le_of_ble_eq_true rfl) (Nat.le_of_ble_eq_true rfl) ?_
                  exact hJ
                · replace h := ifp c45 h
                  refine K_aload_n (pc := 188) dL_slides_188 rfl 0 rfl ?_
                  obtain ⟨v46, hc47, h⟩ := obind_e h
                  refine K_callV0 (g := mi_X3_fuel) (pc := 189) [] [] mv_X3_fuel w_896 (k_X3_fuel (E := eo E)  _ hc47) rfl rfl rfl rfl rfl ⟨⟨Nat.le_of_ble_eq_true rfl, Nat.le_of_ble_eq_true rfl⟩, Nat.le_of_ble_eq_true rfl, Nat.le_of_ble_eq_true rfl⟩ (Nat.le_of_ble_eq_true rfl) dL_slides_189 (Kk_v rfl rfl fun hok48 => ?_)
                  refine K_iload (pc := 192) dL_slides_192 7 rfl ?_
                  refine K_iload (pc := 194) dL_slides_194 4 rfl ?_
                  refine K_aload_n (pc := 196) dL_slides_196 rfl 0 rfl ?_
                  refine K_bipush (v := (12 : Int32)) (pc := 197) dL_slides_197 (by decide) ?_
                  refine K_iload_n (pc := 199) dL_slides_199 rfl 2 rfl ?_
                  refine K_iconst (v := (0 : Int32)) (pc := 200) dL_slides_200 (by decide) ?_
                  refine K_iconst (v := (0 : Int32)) (pc := 201) dL_slides_201 (by decide) ?_
                  obtain ⟨v49, M50, hc51, h⟩ := obind2_e h
                  refine K_callS0 (g := mi_L_call) (pc := 202) [.ref 0, .int (12 : Int32), .int v7, .int (0 : Int32), .int (0 : Int32)] [.ref 0, .int (12 : Int32), .int v7, .int (0 : Int32), .int (0 : Int32)] [.int v19, .int v28, .int v46] ms_L_call w_431 (k_L_call (E := eo E)  (12 : Int32) v7 (0 : Int32) (0 : Int32) _ hc51) rfl rfl rfl rfl ⟨⟨Nat.le_of_ble_eq_true rfl, Nat.le_of_ble_eq_true rfl⟩, Nat.le_of_ble_eq_true rfl, Nat.le_of_ble_eq_true rfl⟩ (Nat.le_of_ble_eq_true rfl) dL_slides_202 (Kk_vk 9 54 rfl rfl fun hok52 => ?_)
                  refine K_imul (pc := 205) dL_slides_205 ?_
                  refine K_iadd (pc := 206) dL_slides_206 ?_
                  refine K_icmp_ne (pc := 207) (tgt := 321) dL_slides_207 (by decide) (fun c53 => ?_) (fun c53 => ?_)
                  · replace h := ifn c53 h
                    refine K_iconst (v := (0 : Int32)) (pc := 321) dL_slides_321 (by decide) ?_
                    cases h
                    refine K_sub [0, 1, 2, 6, 8] rfl ?_
                    refine K_wide (k' := 20) (n' := 120) (Nat.le_of_ble_eq_true rfl) (Nat.le_of_ble_eq_true rfl) ?_
                    exact hJ
                  · replace h := ifp c53 h
                    refine K_aload_n (pc := 210) dL_slides_210 rfl 0 rfl ?_
                    refine K_callV0 (g := mi_X3_logged) (pc := 211) [] [] mv_X3_logged w_885 (k_X3_logged (E := eo E)  _) rfl rfl rfl rfl rfl ⟨⟨Nat.le_of_ble_eq_true rfl, Nat.le_of_ble_eq_true rfl⟩, Nat.le_of_ble_eq_true rfl, Nat.le_of_ble_eq_true rfl⟩ (Nat.le_of_ble_eq_true rfl) dL_slides_211 (Kk_v rfl rfl fun hok54 => ?_)
                    refine K_iload (pc := 214) dL_slides_214 8 rfl ?_
                    refine K_iconst (v := (1 : Int32)) (pc := 216) dL_slides_216 (by decide) ?_
                    refine K_iadd (pc := 217) dL_slides_217 ?_
                    refine K_icmp_ne (pc := 218) (tgt := 321) dL_slides_218 (by decide) (fun c55 => ?_) (fun c55 => ?_)
                    · replace h := ifn c55 h
                      refine K_iconst (v := (0 : Int32)) (pc := 321) dL_slides_321 (by decide) ?_
                      cases h
                      refine K_sub [0, 1, 2, 6, 8] rfl ?_
                      refine K_wide (k' := 20) (n' := 120) (Nat.le_of_ble_eq_true rfl) (Nat.le_of_ble_eq_true rfl) ?_
                      exact hJ
                    · replace h := ifp c55 h
                      refine K_aload_n (pc := 221) dL_slides_221 rfl 0 rfl ?_
                      refine K_bipush (v := (14 : Int32)) (pc := 222) dL_slides_222 (by decide) ?_
                      refine K_iload (pc := 224) dL_slides_224 8 rfl ?_
                      refine K_iconst (v := (0 : Int32)) (pc := 226) dL_slides_226 (by decide) ?_
                      refine K_iconst (v := (0 : Int32)) (pc := 227) dL_slides_227 (by decide) ?_
                      obtain ⟨v56, M57, hc58, h⟩ := obind2_e h
                      refine K_callS0 (g := mi_L_call) (pc := 228) [.ref 0, .int (14 : Int32), .int v32, .int (0 : Int32), .int (0 : Int32)] [.ref 0, .int (14 : Int32), .int v32, .int (0 : Int32), .int (0 : Int32)] [] ms_L_call w_431 (k_L_call (E := eo E)  (14 : Int32) v32 (0 : Int32) (0 : Int32) _ hc58) rfl rfl rfl rfl ⟨⟨Nat.le_of_ble_eq_true rfl, Nat.le_of_ble_eq_true rfl⟩, Nat.le_of_ble_eq_true rfl, Nat.le_of_ble_eq_true rfl⟩ (Nat.le_of_ble_eq_true rfl) dL_slides_228 (Kk_vk 11 66 rfl rfl fun hok59 => ?_)
                      refine K_iload_n (pc := 231) dL_slides_231 rfl 2 rfl ?_
                      refine K_icmp_ne (pc := 232) (tgt := 321) dL_slides_232 (by decide) (fun c60 => ?_) (fun c60 => ?_)
                      · replace h := ifn c60 h
                        refine K_iconst (v := (0 : Int32)) (pc := 321) dL_slides_321 (by decide) ?_
                        cases h
                        refine K_sub [0, 1, 2, 6, 8] rfl ?_
                        refine K_wide (k' := 20) (n' := 120) (Nat.le_of_ble_eq_true rfl) (Nat.le_of_ble_eq_true rfl) ?_
                        exact hJ
                      · replace h := ifp c60 h
                        refine K_aload_n (pc := 235) dL_slides_235 rfl 0 rfl ?_
                        refine K_bipush (v := (15 : Int32)) (pc := 236) dL_slides_236 (by decide) ?_
                        refine K_iload (pc := 238) dL_slides_238 8 rfl ?_
                        refine K_iconst (v := (0 : Int32)) (pc := 240) dL_slides_240 (by decide) ?_
                        refine K_iconst (v := (0 : Int32)) (pc := 241) dL_slides_241 (by decide) ?_
                        obtain ⟨v61, M62, hc63, h⟩ := obind2_e h
                        refine K_callS0 (g := mi_L_call) (pc := 242) [.ref 0, .int (15 : Int32), .int v32, .int (0 : Int32), .int (0 : Int32)] [.ref 0, .int (15 : Int32), .int v32, .int (0 : Int32), .int (0 : Int32)] [] ms_L_call w_431 (k_L_call (E := eo E)  (15 : Int32) v32 (0 : Int32) (0 : Int32) _ hc63) rfl rfl rfl rfl ⟨⟨Nat.le_of_ble_eq_true rfl, Nat.le_of_ble_eq_true rfl⟩, Nat.le_of_ble_eq_true rfl, Nat.le_of_ble_eq_true rfl⟩ (Nat.le_of_ble_eq_true rfl) dL_slides_242 (Kk_vk 13 78 rfl rfl fun hok64 => ?_)
                        refine K_iload (pc := 245) dL_slides_245 5 rfl ?_
                        refine K_icmp_ne (pc := 247) (tgt := 321) dL_slides_247 (by decide) (fun c65 => ?_) (fun c65 => ?_)
                        · replace h := ifn c65 h
                          refine K_iconst (v := (0 : Int32)) (pc := 321) dL_slides_321 (by decide) ?_
                          cases h
                          refine K_sub [0, 1, 2, 6, 8] rfl ?_
                          refine K_wide (k' := 20) (n' := 120) (Nat.le_of_ble_eq_true rfl) (Nat.le_of_ble_eq_true rfl) ?_
                          exact hJ
                        · replace h := ifp c65 h
                          refine K_aload_n (pc := 250) dL_slides_250 rfl 0 rfl ?_
                          refine K_iload_n (pc := 251) dL_slides_251 rfl 2 rfl ?_
                          refine K_iload (pc := 252) dL_slides_252 3 rfl ?_
                          obtain ⟨v66, e67, h⟩ := bnd_e h
                          have hb69 : isB v66 := by rw [e67]; repeat (first | exact Or.inl rfl | exact Or.inr rfl | assumption | exact okB_b (by assumption) | apply isB_ite)
                          refine K_join [(0, .ref 0), (1, .ref 1), (3, .int v7), (6, .int v19), (8, .int v24), (9, .int v28), (10, .int v32)] (M62, M42) 262 [.int v66, .int v7, .ref 0] ?_ (fun hJ => ?_)
                          · obtain ⟨v70, M71, hc72, h⟩ := obind2_e h
                            refine K_callSX0 (g := mi_L_room) (pc := 262) [.ref 0, .int v7, .int v66] [.ref 0, .int v7, .int v66] [] ms_L_room w_878 (k_L_room (E := eo E)  v7 v66 _ hc72) rfl rfl rfl rfl ⟨⟨Nat.le_of_ble_eq_true rfl, Nat.le_of_ble_eq_true rfl⟩, Nat.le_of_ble_eq_true rfl, Nat.le_of_ble_eq_true rfl⟩ (Nat.le_of_ble_eq_true rfl) dL_slides_262 (Kk_vk 14 84 rfl rfl fun hok73 => ?_)
                            refine K_iload (pc := 265) dL_slides_265 3 rfl ?_
                            refine K_icmp_lt (pc := 267) (tgt := 321) dL_slides_267 (by decide) (fun c74 => ?_) (fun c74 => ?_)
                            · replace h := ifp c74 h
                              refine K_iconst (v := (0 : Int32)) (pc := 321) dL_slides_321 (by decide) ?_
                              cases h
                              refine K_sub [0, 1, 2, 4, 6] rfl ?_
                              refine K_wide (k' := 20) (n' := 120) (Nat.le_of_ble_eq_true rfl) (Nat.le_of_ble_eq_true rfl) ?_
                              exact hJ
                            · replace h := ifn c74 h
                              refine K_aload_n (pc := 270) dL_slides_270 rfl 0 rfl ?_
                              refine K_iconst (v := (3 : Int32)) (pc := 271) dL_slides_271 (by decide) ?_
                              refine K_iconst (v := (0 : Int32)) (pc := 272) dL_slides_272 (by decide) ?_
                              refine K_iconst (v := (0 : Int32)) (pc := 273) dL_slides_273 (by decide) ?_
                              refine K_iconst (v := (0 : Int32)) (pc := 274) dL_slides_274 (by decide) ?_
                              obtain ⟨v75, M76, hc77, h⟩ := obind2_e h
                              refine K_callS0 (g := mi_L_call) (pc := 275) [.ref 0, .int (3 : Int32), .int (0 : Int32), .int (0 : Int32), .int (0 : Int32)] [.ref 0, .int (3 : Int32), .int (0 : Int32), .int (0 : Int32), .int (0 : Int32)] [] ms_L_call w_431 (k_L_call (E := eo E)  (3 : Int32) (0 : Int32) (0 : Int32) (0 : Int32) _ hc77) rfl rfl rfl rfl ⟨⟨Nat.le_of_ble_eq_true rfl, Nat.le_of_ble_eq_true rfl⟩, Nat.le_of_ble_eq_true rfl, Nat.le_of_ble_eq_true rfl⟩ (Nat.le_of_ble_eq_true rfl) dL_slides_275 (Kk_vk 16 96 rfl rfl fun hok78 => ?_)
                              refine K_iload_n (pc := 278) dL_slides_278 rfl 2 rfl ?_
                              refine K_icmp_ne (pc := 279) (tgt := 321) dL_slides_279 (by decide) (fun c79 => ?_) (fun c79 => ?_)
                              · replace h := ifn c79 h
                                refine K_iconst (v := (0 : Int32)) (pc := 321) dL_slides_321 (by decide) ?_
                                cases h
                                refine K_sub [0, 1, 2, 4, 6] rfl ?_
                                refine K_wide (k' := 20) (n' := 120) (Nat.le_of_ble_eq_true rfl) (Nat.le_of_ble_eq_true rfl) ?_
                                exact hJ
                              · replace h := ifp c79 h
                                refine K_aload_n (pc := 282) dL_slides_282 rfl 1 rfl ?_
                                refine K_iconst (v := (3 : Int32)) (pc := 283) dL_slides_283 (by decide) ?_
                                refine K_iconst (v := (0 : Int32)) (pc := 284) dL_slides_284 (by decide) ?_
                                refine K_iconst (v := (0 : Int32)) (pc := 285) dL_slides_285 (by decide) ?_
                                refine K_iconst (v := (0 : Int32)) (pc := 286) dL_slides_286 (by decide) ?_
                                obtain ⟨v80, M81, hc82, h⟩ := obind2_e h
                                refine K_callS1 (g := mi_L_call) (pc := 287) [.ref 0, .int (3 : Int32), .int (0 : Int32), .int (0 : Int32), .int (0 : Int32)] [.ref 1, .int (3 : Int32), .int (0 : Int32), .int (0 : Int32), .int (0 : Int32)] [] ms_L_call w_431 (k_L_call (E := ep E)  (3 : Int32) (0 : Int32) (0 : Int32) (0 : Int32) _ hc82) rfl rfl rfl rfl ⟨⟨Nat.le_of_ble_eq_true rfl, Nat.le_of_ble_eq_true rfl⟩, Nat.le_of_ble_eq_true rfl, Nat.le_of_ble_eq_true rfl⟩ (Nat.le_of_ble_eq_true rfl) dL_slides_287 (Kk_vk 18 108 rfl rfl fun hok83 => ?_)
                                refine K_iload_n (pc := 290) dL_slides_290 rfl 2 rfl ?_
                                refine K_icmp_ne (pc := 291) (tgt := 321) dL_slides_291 (by decide) (fun c84 => ?_) (fun c84 => ?_)
                                · replace h := ifn c84 h
                                  refine K_iconst (v := (0 : Int32)) (pc := 321) dL_slides_321 (by decide) ?_
                                  cases h
                                  refine K_sub [0, 1, 2, 4, 6] rfl ?_
                                  refine K_wide (k' := 20) (n' := 120) (Nat.le_of_ble_eq_true rfl) (Nat.le_of_ble_eq_true rfl) ?_
                                  exact hJ
                                · replace h := ifp c84 h
                                  refine K_aload_n (pc := 294) dL_slides_294 rfl 0 rfl ?_
                                  refine K_bipush (v := (11 : Int32)) (pc := 295) dL_slides_295 (by decide) ?_
                                  refine K_iload_n (pc := 297) dL_slides_297 rfl 2 rfl ?_
                                  refine K_iconst (v := (0 : Int32)) (pc := 298) dL_slides_298 (by decide) ?_
                                  refine K_iconst (v := (0 : Int32)) (pc := 299) dL_slides_299 (by decide) ?_
                                  obtain ⟨v85, M86, hc87, h⟩ := obind2_e h
                                  refine K_callS0 (g := mi_L_call) (pc := 300) [.ref 0, .int (11 : Int32), .int v7, .int (0 : Int32), .int (0 : Int32)] [.ref 0, .int (11 : Int32), .int v7, .int (0 : Int32), .int (0 : Int32)] [] ms_L_call w_431 (k_L_call (E := eo E)  (11 : Int32) v7 (0 : Int32) (0 : Int32) _ hc87) rfl rfl rfl rfl ⟨⟨Nat.le_of_ble_eq_true rfl, Nat.le_of_ble_eq_true rfl⟩, Nat.le_of_ble_eq_true rfl, Nat.le_of_ble_eq_true rfl⟩ (Nat.le_of_ble_eq_true rfl) dL_slides_300 (Kk_vk 20 120 rfl rfl fun hok88 => ?_)
                                  refine K_iload (pc := 303) dL_slides_303 4 rfl ?_
                                  refine K_icmp_ne (pc := 305) (tgt := 321) dL_slides_305 (by decide) (fun c89 => ?_) (fun c89 => ?_)
                                  · replace h := ifn c89 h
                                    refine K_iconst (v := (0 : Int32)) (pc := 321) dL_slides_321 (by decide) ?_
                                    cases h
                                    refine K_sub [0, 1, 2, 4, 6] rfl ?_
                                    exact hJ
                                  · replace h := ifp c89 h
                                    refine K_aload_n (pc := 308) dL_slides_308 rfl 0 rfl ?_
                                    obtain ⟨v90, hc91, h⟩ := obind_e h
                                    refine K_callV0 (g := mi_X3_fuel) (pc := 309) [] [] mv_X3_fuel w_896 (k_X3_fuel (E := eo E)  _ hc91) rfl rfl rfl rfl rfl ⟨⟨Nat.le_of_ble_eq_true rfl, Nat.le_of_ble_eq_true rfl⟩, Nat.le_of_ble_eq_true rfl, Nat.le_of_ble_eq_true rfl⟩ (Nat.le_of_ble_eq_true rfl) dL_slides_309 (Kk_v rfl rfl fun hok92 => ?_)
                                    refine K_iload (pc := 312) dL_slides_312 5 rfl ?_
                                    refine K_icmp_ne (pc := 314) (tgt := 321) dL_slides_314 (by decide) (fun c93 => ?_) (fun c93 => ?_)
                                    · replace h := ifn c93 h
                                      refine K_iconst (v := (0 : Int32)) (pc := 321) dL_slides_321 (by decide) ?_
                                      cases h
                                      refine K_sub [0, 1, 2, 4, 6] rfl ?_
                                      exact hJ
                                    · replace h := ifp c93 h
                                      refine K_iconst (v := (1 : Int32)) (pc := 317) dL_slides_317 (by decide) ?_
                                      refine K_goto (pc := 318) (tgt := 322) dL_slides_318 (by decide) ?_
                                      cases h
                                      refine K_sub [0, 1, 2, 4, 6] rfl ?_
                                      exact hJ
                          · refine K_if_ne (pc := 254) (tgt := 261) dL_slides_254 (by decide) (fun c68 => ?_) (fun c68 => ?_)
                            · refine K_iconst (v := (0 : Int32)) (pc := 261) dL_slides_261 (by decide) ?_
                              refine K_sub [0, 1, 2, 4, 6, 7, 8] rfl ?_
                              refine K_topi (y := v66) (by rw [e67, if_neg c68]) ?_
                              exact hJ
                            · refine K_iconst (v := (1 : Int32)) (pc := 257) dL_slides_257 (by decide) ?_
                              refine K_goto (pc := 258) (tgt := 262) dL_slides_258 (by decide) ?_
                              refine K_sub [0, 1, 2, 4, 6, 7, 8] rfl ?_
                              refine K_topi (y := v66) (by rw [e67, if_pos c68]) ?_
                              exact hJ
          · refine K_if_eq (pc := 118) (tgt := 126) dL_slides_118 (by decide) (fun c23 => ?_) (fun c23 => ?_)
            · refine K_iload (pc := 126) dL_slides_126 6 rfl ?_
              refine K_ineg (pc := 128) dL_slides_128 ?_
              refine K_sub [0, 1, 3, 4, 6] rfl ?_
              refine K_topi (y := v21) (by rw [e22, if_pos c23]) ?_
              exact hJ
            · refine K_iload (pc := 121) dL_slides_121 6 rfl ?_
              refine K_goto (pc := 123) (tgt := 129) dL_slides_123 (by decide) ?_
              refine K_sub [0, 1, 3, 4, 6] rfl ?_
              refine K_topi (y := v21) (by rw [e22, if_neg c23]) ?_
              exact hJ
        · replace h := ifp c17 h
          refine K_aload_n (pc := 55) dL_slides_55 rfl 0 rfl ?_
          refine K_iconst (v := (2 : Int32)) (pc := 56) dL_slides_56 (by decide) ?_
          refine K_iload_n (pc := 57) dL_slides_57 rfl 3 rfl ?_
          refine K_iload (pc := 58) dL_slides_58 4 rfl ?_
          obtain ⟨v108, e109, h⟩ := bnd_e h
          refine K_join [(1, .ref 1), (3, .int v7), (4, .int v9)] (M14, M.2) 68 [.int v108, .int v7, .int (2 : Int32), .ref 0] ?_ (fun hJ => ?_)
          · refine K_iconst (v := (0 : Int32)) (pc := 68) dL_slides_68 (by decide) ?_
            obtain ⟨v111, M112, hc113, h⟩ := obind2_e h
            refine K_callS0 (g := mi_L_call) (pc := 69) [.ref 0, .int (2 : Int32), .int v7, .int v108, .int (0 : Int32)] [.ref 0, .int (2 : Int32), .int v7, .int v108, .int (0 : Int32)] [] ms_L_call w_431 (k_L_call (E := eo E)  (2 : Int32) v7 v108 (0 : Int32) _ hc113) rfl rfl rfl rfl ⟨⟨Nat.le_of_ble_eq_true rfl, Nat.le_of_ble_eq_true rfl⟩, Nat.le_of_ble_eq_true rfl, Nat.le_of_ble_eq_true rfl⟩ (Nat.le_of_ble_eq_true rfl) dL_slides_69 (Kk_vk 3 18 rfl rfl fun hok114 => ?_)
            refine K_ldc (pc := 72) w_575 dL_slides_72 ?_
            refine K_icmp_ne (pc := 74) (tgt := 103) dL_slides_74 (by decide) (fun c115 => ?_) (fun c115 => ?_)
            · replace h := ifn c115 h
              refine K_iconst (v := (0 : Int32)) (pc := 103) dL_slides_103 (by decide) ?_
              cases h
              refine K_wide (k' := 22) (n' := 132) (Nat.le_of_ble_eq_true rfl) (Nat.le_of_ble_eq_true rfl) ?_
              exact K_zreturn dL_slides_104 rfl (Or.inl rfl) rfl rfl rfl rfl
            · replace h := ifp c115 h
              refine K_aload_n (pc := 77) dL_slides_77 rfl 0 rfl ?_
              refine K_iconst (v := (2 : Int32)) (pc := 78) dL_slides_78 (by decide) ?_
              refine K_iload_n (pc := 79) dL_slides_79 rfl 1 rfl ?_
              refine K_iload (pc := 80) dL_slides_80 2 rfl ?_
              obtain ⟨v116, e117, h⟩ := bnd_e h
              refine K_join [] (M112, M.2) 90 [.int v116, .int v7, .int (2 : Int32), .ref 1] ?_ (fun hJ => ?_)
              · refine K_iconst (v := (0 : Int32)) (pc := 90) dL_slides_90 (by decide) ?_
                obtain ⟨v119, M120, hc121, h⟩ := obind2_e h
                refine K_callS1 (g := mi_L_call) (pc := 91) [.ref 0, .int (2 : Int32), .int v7, .int v116, .int (0 : Int32)] [.ref 1, .int (2 : Int32), .int v7, .int v116, .int (0 : Int32)] [] ms_L_call w_431 (k_L_call (E := ep E)  (2 : Int32) v7 v116 (0 : Int32) _ hc121) rfl rfl rfl rfl ⟨⟨Nat.le_of_ble_eq_true rfl, Nat.le_of_ble_eq_true rfl⟩, Nat.le_of_ble_eq_true rfl, Nat.le_of_ble_eq_true rfl⟩ (Nat.le_of_ble_eq_true rfl) dL_slides_91 (Kk_vk 5 30 rfl rfl fun hok122 => ?_)
                refine K_ldc (pc := 94) w_575 dL_slides_94 ?_
                refine K_icmp_ne (pc := 96) (tgt := 103) dL_slides_96 (by decide) (fun c123 => ?_) (fun c123 => ?_)
                · replace h := ifn c123 h
                  refine K_iconst (v := (0 : Int32)) (pc := 103) dL_slides_103 (by decide) ?_
                  cases h
                  refine K_wide (k' := 22) (n' := 132) (Nat.le_of_ble_eq_true rfl) (Nat.le_of_ble_eq_true rfl) ?_
                  exact K_zreturn dL_slides_104 rfl (Or.inl rfl) rfl rfl rfl rfl
                · replace h := ifp c123 h
                  refine K_iconst (v := (1 : Int32)) (pc := 99) dL_slides_99 (by decide) ?_
                  refine K_goto (pc := 100) (tgt := 104) dL_slides_100 (by decide) ?_
                  cases h
                  refine K_wide (k' := 22) (n' := 132) (Nat.le_of_ble_eq_true rfl) (Nat.le_of_ble_eq_true rfl) ?_
                  exact K_zreturn dL_slides_104 rfl (Or.inr rfl) rfl rfl rfl rfl
              · refine K_if_eq (pc := 82) (tgt := 89) dL_slides_82 (by decide) (fun c118 => ?_) (fun c118 => ?_)
                · refine K_iconst (v := (-1 : Int32)) (pc := 89) dL_slides_89 (by decide) ?_
                  refine K_sub [] rfl ?_
                  refine K_topi (y := v116) (by rw [e117, if_pos c118]) ?_
                  exact hJ
                · refine K_iconst (v := (1 : Int32)) (pc := 85) dL_slides_85 (by decide) ?_
                  refine K_goto (pc := 86) (tgt := 90) dL_slides_86 (by decide) ?_
                  refine K_sub [] rfl ?_
                  refine K_topi (y := v116) (by rw [e117, if_neg c118]) ?_
                  exact hJ
          · refine K_if_eq (pc := 60) (tgt := 67) dL_slides_60 (by decide) (fun c110 => ?_) (fun c110 => ?_)
            · refine K_iconst (v := (-1 : Int32)) (pc := 67) dL_slides_67 (by decide) ?_
              refine K_sub [1, 3, 4] rfl ?_
              refine K_topi (y := v108) (by rw [e109, if_pos c110]) ?_
              exact hJ
            · refine K_iconst (v := (1 : Int32)) (pc := 63) dL_slides_63 (by decide) ?_
              refine K_goto (pc := 64) (tgt := 68) dL_slides_64 (by decide) ?_
              refine K_sub [1, 3, 4] rfl ?_
              refine K_topi (y := v108) (by rw [e109, if_neg c110]) ?_
              exact hJ
      · refine K_if_ne (pc := 31) (tgt := 38) dL_slides_31 (by decide) (fun c11 => ?_) (fun c11 => ?_)
        · refine K_iconst (v := (0 : Int32)) (pc := 38) dL_slides_38 (by decide) ?_
          refine K_topi (y := v9) (by rw [e10, if_neg c11]) ?_
          exact hJ
        · refine K_iconst (v := (1 : Int32)) (pc := 34) dL_slides_34 (by decide) ?_
          refine K_goto (pc := 35) (tgt := 39) dL_slides_35 (by decide) ?_
          refine K_topi (y := v9) (by rw [e10, if_pos c11]) ?_
          exact hJ
    · replace h := ifp c4 h
      refine K_iconst (v := (1 : Int32)) (pc := 16) dL_slides_16 (by decide) ?_
      cases h
      refine K_wide (k' := 22) (n' := 132) (Nat.le_of_ble_eq_true rfl) (Nat.le_of_ble_eq_true rfl) ?_
      exact K_zreturn dL_slides_17 rfl (Or.inr rfl) rfl rfl rfl rfl

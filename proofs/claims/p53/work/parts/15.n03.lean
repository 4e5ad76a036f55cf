/-! ===== the law's loop ===== -/
abbrev mi_L_law : MI := (yL_law, cL_law, 8, some .boolean, 14, 542, 647149, 7160022, [])
set_option maxHeartbeats 4000000 in
set_option maxRecDepth 100000 in
theorem kL_L_law_L34 {κ : Kx} {E : En2} {Q : State → Prop} {ρ : Type} {r : ρ} (a3 : Int32) (K191 : Int32 → Wd2 → Option ρ) (hK191 : ∀ (x4 : Int32) (M : Wd2), K191 x4 M = some r → K κ E mi_L_law Q 10600 122572 [(4, .int x4)] M 191 []) : ∀ (m : Nat) (kk nn : Nat) (x4 : Int32) (x5 : Int32) (M : Wd2), kk + 318 * m ≤ 10600 → nn + 1908 * m ≤ 122572 → F_L_law_L34 E.2.2.2 E.2.2.1 a3 K191 m x4 x5 M = some r → K κ E mi_L_law Q kk nn [(0, .ref 2), (1, .ref 0), (2, .ref 1), (3, .int a3), (4, .int x4), (5, .int x5)] M 34 [] := by
  intro m
  induction m with
  | zero => intro kk nn x4 x5 M hk hn h; exact (nomatch (show (none : Option ρ) = some r from h))
  | succ m ih =>
    intro kk nn x4 x5 M hk hn h
    unfold F_L_law_L34 at h
    refine K_wide (k' := (kk + 0)) (n' := (nn + 0)) (by omega) (by omega) ?_
    refine K_iload (pc := 34) dL_law_34 5 rfl ?_
    refine K_iload_n (pc := 36) dL_law_36 rfl 3 rfl ?_
    refine K_icmp_ge (pc := 37) (tgt := 191) dL_law_37 (by decide) (fun c1 => ?_) (fun c1 => ?_)
    · replace h := ifp c1 h
      refine K_sub [4] rfl ?_
      refine K_wide (k' := 10600) (n' := 122572) (by omega) (by omega) ?_
      exact hK191 _ _ h
    · replace h := ifn c1 h
      refine K_iload (pc := 40) dL_law_40 4 rfl ?_
      refine K_if_eq (pc := 42) (tgt := 191) dL_law_42 (by decide) (fun c2 => ?_) (fun c2 => ?_)
      · replace h := ifp c2 h
        refine K_sub [4] rfl ?_
        refine K_wide (k' := 10600) (n' := 122572) (by omega) (by omega) ?_
        exact hK191 _ _ h
      · replace h := ifn c2 h
        refine K_aload_n (pc := 45) dL_law_45 rfl 0 rfl ?_
        refine K_iconst (v := (1 : Int32)) (pc := 46) dL_law_46 (by decide) ?_
        refine K_iload (pc := 47) dL_law_47 5 rfl ?_
        refine K_iadd (pc := 49) dL_law_49 ?_
        obtain ⟨v3, hc4, h⟩ := obind_e h
        refine K_callS (g := mi_L_cell) (pc := 50) [.ref 2, .int ((1 : Int32) + x5)] [] ms_L_cell w_419 (k_L_cell  ((1 : Int32) + x5) _ hc4) rfl rfl ⟨⟨Nat.le_of_ble_eq_true rfl, Nat.le_of_ble_eq_true rfl⟩, (show (kk + 0) + 0 ≤ 647149 by omega), (show (nn + 0) + 0 ≤ 7160022 by omega)⟩ (Nat.le_of_ble_eq_true rfl) dL_law_50 (Kk_v rfl rfl fun hok5 => ?_)
        refine K_istore (pc := 53) dL_law_53 (Nat.le_of_ble_eq_true rfl) [1, 2, 3, 4, 5, 6, 0] rfl ?_
        refine K_aload_n (pc := 55) dL_law_55 rfl 1 rfl ?_
        refine K_iload (pc := 56) dL_law_56 6 rfl ?_
        obtain ⟨v6, M7, hc8, h⟩ := obind2_e h
        refine K_callS0 (g := mi_L_act) (pc := 58) [.ref 0, .int v3] [.ref 0, .int v3] [] ms_L_act w_943 (k_L_act (E := eo E)  v3 _ hc8) rfl rfl rfl rfl ⟨⟨Nat.le_of_ble_eq_true rfl, Nat.le_of_ble_eq_true rfl⟩, (show (kk + 0) + 2 ≤ 647149 by omega), (show (nn + 0) + 12 ≤ 7160022 by omega)⟩ (Nat.le_of_ble_eq_true rfl) dL_law_58 (Kk_vk (kk + 2) (nn + 12) rfl rfl fun hok9 => ?_)
        refine K_istore (pc := 61) dL_law_61 (Nat.le_of_ble_eq_true rfl) [1, 2, 3, 4, 5, 6, 7, 0] rfl ?_
        refine K_LS [(0, .ref 2), (1, .ref 0), (2, .ref 1), (3, .int a3), (4, .int x4), (5, .int x5), (6, .int v3), (7, .int v6)] [] rfl rfl ?_
        refine K_aload_n (pc := 63) dL_law_63 rfl 2 rfl ?_
        refine K_iload (pc := 64) dL_law_64 6 rfl ?_
        refine K_ldc (pc := 66) w_973 dL_law_66 ?_
        refine K_irem (pc := 68) dL_law_68 (by decide) ?_
        obtain ⟨v10, M11, hc12, h⟩ := obind2_e h
        refine K_callS1 (g := mi_L_refuses) (pc := 69) [.ref 0, .int (v3 - v3 / (100000 : Int32) * (100000 : Int32))] [.ref 1, .int (v3 - v3 / (100000 : Int32) * (100000 : Int32))] [] ms_L_refuses w_424 (k_L_refuses (E := ep E)  (v3 - v3 / (100000 : Int32) * (100000 : Int32)) _ hc12) rfl rfl rfl rfl ⟨⟨Nat.le_of_ble_eq_true rfl, Nat.le_of_ble_eq_true rfl⟩, (show (kk + 2) + 83 ≤ 647149 by omega), (show (nn + 12) + 498 ≤ 7160022 by omega)⟩ (Nat.le_of_ble_eq_true rfl) dL_law_69 (Kk_vk (kk + 85) (nn + 510) rfl rfl fun hok13 => ?_)
        obtain ⟨v14, M15, hv103, h⟩ := obind2_e h
        refine K_joinW (kk + 318) (nn + 1908) [(0, .ref 2), (1, .ref 0), (2, .ref 1), (3, .int a3), (5, .int x5)] M15 183 [.int v14] ?_ (fun hJ => ?_)
        · refine K_istore (pc := 183) dL_law_183 (Nat.le_of_ble_eq_true rfl) [1, 2, 3, 4, 0, 5] rfl ?_
          obtain ⟨v104, e105, h⟩ := bnd_e h
          refine K_iinc (v := v104) (pc := 185) dL_law_185 5 rfl (by rw [e105]; rfl) (Nat.le_of_ble_eq_true rfl) [1, 2, 3, 4, 5, 0] rfl ?_
          refine K_LS [(0, .ref 2), (1, .ref 0), (2, .ref 1), (3, .int a3), (4, .int v14), (5, .int v104)] [] rfl rfl ?_
          refine K_goto (pc := 188) (tgt := 34) dL_law_188 (by decide) ?_
          exact ih _ _ _ _ _ (by omega) (by omega) h
        · replace h := hv103
          refine K_if_eq (pc := 72) (tgt := 182) dL_law_72 (by decide) (fun c16 => ?_) (fun c16 => ?_)
          · replace h := ifp c16 h
            refine K_iconst (v := (0 : Int32)) (pc := 182) dL_law_182 (by decide) ?_
            cases h
            refine K_sub [0, 1, 2, 3, 5] rfl ?_
            refine K_wide (k' := (kk + 318)) (n' := (nn + 1908)) (by omega) (by omega) ?_
            exact hJ
          · replace h := ifn c16 h
            refine K_aload_n (pc := 75) dL_law_75 rfl 2 rfl ?_
            refine K_iload (pc := 76) dL_law_76 6 rfl ?_
            obtain ⟨v17, M18, hc19, h⟩ := obind2_e h
            refine K_callS1 (g := mi_L_act) (pc := 78) [.ref 0, .int v3] [.ref 1, .int v3] [] ms_L_act w_943 (k_L_act (E := ep E)  v3 _ hc19) rfl rfl rfl rfl ⟨⟨Nat.le_of_ble_eq_true rfl, Nat.le_of_ble_eq_true rfl⟩, (show (kk + 85) + 2 ≤ 647149 by omega), (show (nn + 510) + 12 ≤ 7160022 by omega)⟩ (Nat.le_of_ble_eq_true rfl) dL_law_78 (Kk_vk (kk + 87) (nn + 522) rfl rfl fun hok20 => ?_)
            refine K_iload (pc := 81) dL_law_81 7 rfl ?_
            refine K_icmp_ne (pc := 83) (tgt := 182) dL_law_83 (by decide) (fun c21 => ?_) (fun c21 => ?_)
            · replace h := ifn c21 h
              refine K_iconst (v := (0 : Int32)) (pc := 182) dL_law_182 (by decide) ?_
              cases h
              refine K_sub [0, 1, 2, 3, 5] rfl ?_
              refine K_wide (k' := (kk + 318)) (n' := (nn + 1908)) (by omega) (by omega) ?_
              exact hJ
            · replace h := ifp c21 h
              refine K_aload_n (pc := 86) dL_law_86 rfl 2 rfl ?_
              refine K_iload (pc := 87) dL_law_87 6 rfl ?_
              refine K_sipush (v := (1000 : Int32)) (pc := 89) dL_law_89 (by decide) ?_
              refine K_irem (pc := 92) dL_law_92 (by decide) ?_
              obtain ⟨v22, M23, hc24, h⟩ := obind2_e h
              refine K_callS1 (g := mi_L_refuses) (pc := 93) [.ref 0, .int (v3 - v3 / (1000 : Int32) * (1000 : Int32))] [.ref 1, .int (v3 - v3 / (1000 : Int32) * (1000 : Int32))] [] ms_L_refuses w_424 (k_L_refuses (E := ep E)  (v3 - v3 / (1000 : Int32) * (1000 : Int32)) _ hc24) rfl rfl rfl rfl ⟨⟨Nat.le_of_ble_eq_true rfl, Nat.le_of_ble_eq_true rfl⟩, (show (kk + 87) + 83 ≤ 647149 by omega), (show (nn + 522) + 498 ≤ 7160022 by omega)⟩ (Nat.le_of_ble_eq_true rfl) dL_law_93 (Kk_vk (kk + 170) (nn + 1020) rfl rfl fun hok25 => ?_)
              refine K_if_eq (pc := 96) (tgt := 182) dL_law_96 (by decide) (fun c26 => ?_) (fun c26 => ?_)
              · replace h := ifp c26 h
                refine K_iconst (v := (0 : Int32)) (pc := 182) dL_law_182 (by decide) ?_
                cases h
                refine K_sub [0, 1, 2, 3, 5] rfl ?_
                refine K_wide (k' := (kk + 318)) (n' := (nn + 1908)) (by omega) (by omega) ?_
                exact hJ
              · replace h := ifn c26 h
                refine K_aload_n (pc := 99) dL_law_99 rfl 1 rfl ?_
                refine K_aload_n (pc := 100) dL_law_100 rfl 2 rfl ?_
                obtain ⟨v27, M28, hc29, h⟩ := obind2_e h
                refine K_callS (g := mi_L_alike) (pc := 101) [.ref 0, .ref 1] [] ms_L_alike w_954 (k_L_alike  _ hc29) rfl rfl ⟨⟨Nat.le_of_ble_eq_true rfl, Nat.le_of_ble_eq_true rfl⟩, (show (kk + 170) + 112 ≤ 647149 by omega), (show (nn + 1020) + 672 ≤ 7160022 by omega)⟩ (Nat.le_of_ble_eq_true rfl) dL_law_101 (Kk_vk (kk + 282) (nn + 1692) rfl rfl fun hok30 => ?_)
                refine K_if_eq (pc := 104) (tgt := 182) dL_law_104 (by decide) (fun c31 => ?_) (fun c31 => ?_)
                · replace h := ifp c31 h
                  refine K_iconst (v := (0 : Int32)) (pc := 182) dL_law_182 (by decide) ?_
                  cases h
                  refine K_sub [0, 1, 2, 3, 5] rfl ?_
                  refine K_wide (k' := (kk + 318)) (n' := (nn + 1908)) (by omega) (by omega) ?_
                  exact hJ
                · replace h := ifn c31 h
                  refine K_iload (pc := 107) dL_law_107 5 rfl ?_
                  refine K_iconst (v := (2 : Int32)) (pc := 109) dL_law_109 (by decide) ?_
                  refine K_irem (pc := 110) dL_law_110 (by decide) ?_
                  refine K_if_ne (pc := 111) (tgt := 124) dL_law_111 (by decide) (fun c32 => ?_) (fun c32 => ?_)
                  · replace h := ifn c32 h
                    refine K_aload_n (pc := 124) dL_law_124 rfl 2 rfl ?_
                    obtain ⟨v33, M34, hc35, h⟩ := obind2_e h
                    refine K_callS1 (g := mi_L_holds) (pc := 125) [.ref 0] [.ref 1] [] ms_L_holds w_891 (k_L_holds (E := ep E)  _ hc35) rfl rfl rfl rfl ⟨⟨Nat.le_of_ble_eq_true rfl, Nat.le_of_ble_eq_true rfl⟩, (show (kk + 282) + 0 ≤ 647149 by omega), (show (nn + 1692) + 0 ≤ 7160022 by omega)⟩ (Nat.le_of_ble_eq_true rfl) dL_law_125 (Kk_v rfl rfl fun hok36 => ?_)
                    refine K_if_eq (pc := 128) (tgt := 182) dL_law_128 (by decide) (fun c37 => ?_) (fun c37 => ?_)
                    · replace h := ifp c37 h
                      refine K_iconst (v := (0 : Int32)) (pc := 182) dL_law_182 (by decide) ?_
                      cases h
                      refine K_sub [0, 1, 2, 3, 5] rfl ?_
                      refine K_wide (k' := (kk + 318)) (n' := (nn + 1908)) (by omega) (by omega) ?_
                      exact hJ
                    · replace h := ifn c37 h
                      refine K_iload (pc := 131) dL_law_131 5 rfl ?_
                      refine K_iconst (v := (4 : Int32)) (pc := 133) dL_law_133 (by decide) ?_
                      refine K_irem (pc := 134) dL_law_134 (by decide) ?_
                      refine K_if_gt (pc := 135) (tgt := 165) dL_law_135 (by decide) (fun c38 => ?_) (fun c38 => ?_)
                      · replace h := ifp c38 h
                        refine K_aload_n (pc := 165) dL_law_165 rfl 1 rfl ?_
                        refine K_aload_n (pc := 166) dL_law_166 rfl 2 rfl ?_
                        refine K_iload (pc := 167) dL_law_167 6 rfl ?_
                        refine K_bipush (v := (7 : Int32)) (pc := 169) dL_law_169 (by decide) ?_
                        refine K_idiv (pc := 171) dL_law_171 (by decide) ?_
                        obtain ⟨v39, M40, hc41, h⟩ := obind2_e h
                        refine K_callS (g := mi_L_slides) (pc := 172) [.ref 0, .ref 1, .int (v3 / (7 : Int32))] [] ms_L_slides w_961 (k_L_slides  (v3 / (7 : Int32)) _ hc41) rfl rfl ⟨⟨Nat.le_of_ble_eq_true rfl, Nat.le_of_ble_eq_true rfl⟩, (show (kk + 282) + 22 ≤ 647149 by omega), (show (nn + 1692) + 132 ≤ 7160022 by omega)⟩ (Nat.le_of_ble_eq_true rfl) dL_law_172 (Kk_vk (kk + 304) (nn + 1824) rfl rfl fun hok42 => ?_)
                        refine K_if_eq (pc := 175) (tgt := 182) dL_law_175 (by decide) (fun c43 => ?_) (fun c43 => ?_)
                        · replace h := ifp c43 h
                          refine K_iconst (v := (0 : Int32)) (pc := 182) dL_law_182 (by decide) ?_
                          cases h
                          refine K_sub [0, 1, 2, 3, 5] rfl ?_
                          refine K_wide (k' := (kk + 318)) (n' := (nn + 1908)) (by omega) (by omega) ?_
                          exact hJ
                        · replace h := ifn c43 h
                          refine K_iconst (v := (1 : Int32)) (pc := 178) dL_law_178 (by decide) ?_
                          refine K_goto (pc := 179) (tgt := 183) dL_law_179 (by decide) ?_
                          cases h
                          refine K_sub [0, 1, 2, 3, 5] rfl ?_
                          refine K_wide (k' := (kk + 318)) (n' := (nn + 1908)) (by omega) (by omega) ?_
                          exact hJ
                      · replace h := ifn c38 h
                        refine K_aload_n (pc := 138) dL_law_138 rfl 1 rfl ?_
                        obtain ⟨v44, M45, hc46, h⟩ := obind2_e h
                        refine K_callS0 (g := mi_L_plans) (pc := 139) [.ref 0] [.ref 0] [] ms_L_plans w_904 (k_L_plans (E := eo E)  _ hc46) rfl rfl rfl rfl ⟨⟨Nat.le_of_ble_eq_true rfl, Nat.le_of_ble_eq_true rfl⟩, (show (kk + 282) + 0 ≤ 647149 by omega), (show (nn + 1692) + 0 ≤ 7160022 by omega)⟩ (Nat.le_of_ble_eq_true rfl) dL_law_139 (Kk_v rfl rfl fun hok47 => ?_)
                        refine K_if_eq (pc := 142) (tgt := 182) dL_law_142 (by decide) (fun c48 => ?_) (fun c48 => ?_)
                        · replace h := ifp c48 h
                          refine K_iconst (v := (0 : Int32)) (pc := 182) dL_law_182 (by decide) ?_
                          cases h
                          refine K_sub [0, 1, 2, 3, 5] rfl ?_
                          refine K_wide (k' := (kk + 318)) (n' := (nn + 1908)) (by omega) (by omega) ?_
                          exact hJ
                        · replace h := ifn c48 h
                          refine K_aload_n (pc := 145) dL_law_145 rfl 1 rfl ?_
                          obtain ⟨v49, M50, hc51, h⟩ := obind2_e h
                          refine K_callV0 (g := mi_X3_digest) (pc := 146) [] [] mv_X3_digest w_176 (k_X3_digest (E := eo E)  _ hc51) rfl rfl rfl rfl rfl ⟨⟨Nat.le_of_ble_eq_true rfl, Nat.le_of_ble_eq_true rfl⟩, (show (kk + 282) + 0 ≤ 647149 by omega), (show (nn + 1692) + 0 ≤ 7160022 by omega)⟩ (Nat.le_of_ble_eq_true rfl) dL_law_146 (Kk_v rfl rfl fun hok52 => ?_)
                          refine K_aload_n (pc := 149) dL_law_149 rfl 2 rfl ?_
                          obtain ⟨v53, M54, hc55, h⟩ := obind2_e h
                          refine K_callV1 (g := mi_X3_digest) (pc := 150) [] [.long v49] mv_X3_digest w_176 (k_X3_digest (E := ep E)  _ hc55) rfl rfl rfl rfl rfl ⟨⟨Nat.le_of_ble_eq_true rfl, Nat.le_of_ble_eq_true rfl⟩, (show (kk + 282) + 0 ≤ 647149 by omega), (show (nn + 1692) + 0 ≤ 7160022 by omega)⟩ (Nat.le_of_ble_eq_true rfl) dL_law_150 (Kk_v rfl rfl fun hok56 => ?_)
                          refine K_lcmp (pc := 153) dL_law_153 ?_
                          refine K_if_ne (pc := 154) (tgt := 182) dL_law_154 (by decide) (fun c57 => ?_) (fun c57 => ?_)
                          · replace h := ifn c57 h
                            refine K_iconst (v := (0 : Int32)) (pc := 182) dL_law_182 (by decide) ?_
                            cases h
                            refine K_sub [0, 1, 2, 3, 5] rfl ?_
                            refine K_wide (k' := (kk + 318)) (n' := (nn + 1908)) (by omega) (by omega) ?_
                            exact hJ
                          · replace h := ifp c57 h
                            refine K_aload_n (pc := 157) dL_law_157 rfl 1 rfl ?_
                            refine K_aload_n (pc := 158) dL_law_158 rfl 2 rfl ?_
                            obtain ⟨v58, M59, hc60, h⟩ := obind2_e h
                            refine K_callS (g := mi_L_drives) (pc := 159) [.ref 0, .ref 1] [] ms_L_drives w_970 (k_L_drives  _ hc60) rfl rfl ⟨⟨Nat.le_of_ble_eq_true rfl, Nat.le_of_ble_eq_true rfl⟩, (show (kk + 282) + 14 ≤ 647149 by omega), (show (nn + 1692) + 84 ≤ 7160022 by omega)⟩ (Nat.le_of_ble_eq_true rfl) dL_law_159 (Kk_vk (kk + 296) (nn + 1776) rfl rfl fun hok61 => ?_)
                            refine K_if_eq (pc := 162) (tgt := 182) dL_law_162 (by decide) (fun c62 => ?_) (fun c62 => ?_)
                            · replace h := ifp c62 h
                              refine K_iconst (v := (0 : Int32)) (pc := 182) dL_law_182 (by decide) ?_
                              cases h
                              refine K_sub [0, 1, 2, 3, 5] rfl ?_
                              refine K_wide (k' := (kk + 318)) (n' := (nn + 1908)) (by omega) (by omega) ?_
                              exact hJ
                            · replace h := ifn c62 h
                              refine K_aload_n (pc := 165) dL_law_165 rfl 1 rfl ?_
                              refine K_aload_n (pc := 166) dL_law_166 rfl 2 rfl ?_
                              refine K_iload (pc := 167) dL_law_167 6 rfl ?_
                              refine K_bipush (v := (7 : Int32)) (pc := 169) dL_law_169 (by decide) ?_
                              refine K_idiv (pc := 171) dL_law_171 (by decide) ?_
                              obtain ⟨v63, M64, hc65, h⟩ := obind2_e h
                              refine K_callS (g := mi_L_slides) (pc := 172) [.ref 0, .ref 1, .int (v3 / (7 : Int32))] [] ms_L_slides w_961 (k_L_slides  (v3 / (7 : Int32)) _ hc65) rfl rfl ⟨⟨Nat.le_of_ble_eq_true rfl, Nat.le_of_ble_eq_true rfl⟩, (show (kk + 296) + 22 ≤ 647149 by omega), (show (nn + 1776) + 132 ≤ 7160022 by omega)⟩ (Nat.le_of_ble_eq_true rfl) dL_law_172 (Kk_vk (kk + 318) (nn + 1908) rfl rfl fun hok66 => ?_)
                              refine K_if_eq (pc := 175) (tgt := 182) dL_law_175 (by decide) (fun c67 => ?_) (fun c67 => ?_)
                              · replace h := ifp c67 h
                                refine K_iconst (v := (0 : Int32)) (pc := 182) dL_law_182 (by decide) ?_
                                cases h
                                refine K_sub [0, 1, 2, 3, 5] rfl ?_
                                exact hJ
                              · replace h := ifn c67 h
                                refine K_iconst (v := (1 : Int32)) (pc := 178) dL_law_178 (by decide) ?_
                                refine K_goto (pc := 179) (tgt := 183) dL_law_179 (by decide) ?_
                                cases h
                                refine K_sub [0, 1, 2, 3, 5] rfl ?_
                                exact hJ
                  · replace h := ifp c32 h
                    refine K_aload_n (pc := 114) dL_law_114 rfl 1 rfl ?_
                    obtain ⟨v68, M69, hc70, h⟩ := obind2_e h
                    refine K_callS0 (g := mi_L_holds) (pc := 115) [.ref 0] [.ref 0] [] ms_L_holds w_891 (k_L_holds (E := eo E)  _ hc70) rfl rfl rfl rfl ⟨⟨Nat.le_of_ble_eq_true rfl, Nat.le_of_ble_eq_true rfl⟩, (show (kk + 282) + 0 ≤ 647149 by omega), (show (nn + 1692) + 0 ≤ 7160022 by omega)⟩ (Nat.le_of_ble_eq_true rfl) dL_law_115 (Kk_v rfl rfl fun hok71 => ?_)
                    refine K_if_eq (pc := 118) (tgt := 182) dL_law_118 (by decide) (fun c72 => ?_) (fun c72 => ?_)
                    · replace h := ifp c72 h
                      refine K_iconst (v := (0 : Int32)) (pc := 182) dL_law_182 (by decide) ?_
                      cases h
                      refine K_sub [0, 1, 2, 3, 5] rfl ?_
                      refine K_wide (k' := (kk + 318)) (n' := (nn + 1908)) (by omega) (by omega) ?_
                      exact hJ
                    · replace h := ifn c72 h
                      refine K_goto (pc := 121) (tgt := 131) dL_law_121 (by decide) ?_
                      refine K_iload (pc := 131) dL_law_131 5 rfl ?_
                      refine K_iconst (v := (4 : Int32)) (pc := 133) dL_law_133 (by decide) ?_
                      refine K_irem (pc := 134) dL_law_134 (by decide) ?_
                      refine K_if_gt (pc := 135) (tgt := 165) dL_law_135 (by decide) (fun c73 => ?_) (fun c73 => ?_)
                      · replace h := ifp c73 h
                        refine K_aload_n (pc := 165) dL_law_165 rfl 1 rfl ?_
                        refine K_aload_n (pc := 166) dL_law_166 rfl 2 rfl ?_
                        refine K_iload (pc := 167) dL_law_167 6 rfl ?_
                        refine K_bipush (v := (7 : Int32)) (pc := 169) dL_law_169 (by decide) ?_
                        refine K_idiv (pc := 171) dL_law_171 (by decide) ?_
                        obtain ⟨v74, M75, hc76, h⟩ := obind2_e h
                        refine K_callS (g := mi_L_slides) (pc := 172) [.ref 0, .ref 1, .int (v3 / (7 : Int32))] [] ms_L_slides w_961 (k_L_slides  (v3 / (7 : Int32)) _ hc76) rfl rfl ⟨⟨Nat.le_of_ble_eq_true rfl, Nat.le_of_ble_eq_true rfl⟩, (show (kk + 282) + 22 ≤ 647149 by omega), (show (nn + 1692) + 132 ≤ 7160022 by omega)⟩ (Nat.le_of_ble_eq_true rfl) dL_law_172 (Kk_vk (kk + 304) (nn + 1824) rfl rfl fun hok77 => ?_)
                        refine K_if_eq (pc := 175) (tgt := 182) dL_law_175 (by decide) (fun c78 => ?_) (fun c78 => ?_)
                        · replace h := ifp c78 h
                          refine K_iconst (v := (0 : Int32)) (pc := 182) dL_law_182 (by decide) ?_
                          cases h
                          refine K_sub [0, 1, 2, 3, 5] rfl ?_
                          refine K_wide (k' := (kk + 318)) (n' := (nn + 1908)) (by omega) (by omega) ?_
                          exact hJ
                        · replace h := ifn c78 h
                          refine K_iconst (v := (1 : Int32)) (pc := 178) dL_law_178 (by decide) ?_
                          refine K_goto (pc := 179) (tgt := 183) dL_law_179 (by decide) ?_
                          cases h
                          refine K_sub [0, 1, 2, 3, 5] rfl ?_
                          refine K_wide (k' := (kk + 318)) (n' := (nn + 1908)) (by omega) (by omega) ?_
                          exact hJ
                      · replace h := ifn c73 h
                        refine K_aload_n (pc := 138) dL_law_138 rfl 1 rfl ?_
                        obtain ⟨v79, M80, hc81, h⟩ := obind2_e h
                        refine K_callS0 (g := mi_L_plans) (pc := 139) [.ref 0] [.ref 0] [] ms_L_plans w_904 (k_L_plans (E := eo E)  _ hc81) rfl rfl rfl rfl ⟨⟨Nat.le_of_ble_eq_true rfl, Nat.le_of_ble_eq_true rfl⟩, (show (kk + 282) + 0 ≤ 647149 by omega), (show (nn + 1692) + 0 ≤ 7160022 by omega)⟩ (Nat.le_of_ble_eq_true rfl) dL_law_139 (Kk_v rfl rfl fun hok82 => ?_)
                        refine K_if_eq (pc := 142) (tgt := 182) dL_law_142 (by decide) (fun c83 => ?_) (fun c83 => ?_)
                        · replace h := ifp c83 h
                          refine K_iconst (v := (0 : Int32)) (pc := 182) dL_law_182 (by decide) ?_
                          cases h
                          refine K_sub [0, 1, 2, 3, 5] rfl ?_
                          refine K_wide (k' := (kk + 318)) (n' := (nn + 1908)) (by omega) (by omega) ?_
                          exact hJ
                        · replace h := ifn c83 h
                          refine K_aload_n (pc := 145) dL_law_145 rfl 1 rfl ?_
                          obtain ⟨v84, M85, hc86, h⟩ := obind2_e h
                          refine K_callV0 (g := mi_X3_digest) (pc := 146) [] [] mv_X3_digest w_176 (k_X3_digest (E := eo E)  _ hc86) rfl rfl rfl rfl rfl ⟨⟨Nat.le_of_ble_eq_true rfl, Nat.le_of_ble_eq_true rfl⟩, (show (kk + 282) + 0 ≤ 647149 by omega), (show (nn + 1692) + 0 ≤ 7160022 by omega)⟩ (Nat.le_of_ble_eq_true rfl) dL_law_146 (Kk_v rfl rfl fun hok87 => ?_)
                          refine K_aload_n (pc := 149) dL_law_149 rfl 2 rfl ?_
                          obtain ⟨v88, M89, hc90, h⟩ := obind2_e h
                          refine K_callV1 (g := mi_X3_digest) (pc := 150) [] [.long v84] mv_X3_digest w_176 (k_X3_digest (E := ep E)  _ hc90) rfl rfl rfl rfl rfl ⟨⟨Nat.le_of_ble_eq_true rfl, Nat.le_of_ble_eq_true rfl⟩, (show (kk + 282) + 0 ≤ 647149 by omega), (show (nn + 1692) + 0 ≤ 7160022 by omega)⟩ (Nat.le_of_ble_eq_true rfl) dL_law_150 (Kk_v rfl rfl fun hok91 => ?_)
                          refine K_lcmp (pc := 153) dL_law_153 ?_
                          refine K_if_ne (pc := 154) (tgt := 182) dL_law_154 (by decide) (fun c92 => ?_) (fun c92 => ?_)
                          · replace h := ifn c92 h
                            refine K_iconst (v := (0 : Int32)) (pc := 182) dL_law_182 (by decide) ?_
                            cases h
                            refine K_sub [0, 1, 2, 3, 5] rfl ?_
                            refine K_wide (k' := (kk + 318)) (n' := (nn + 1908)) (by omega) (by omega) ?_
                            exact hJ
                          · replace h := ifp c92 h
                            refine K_aload_n (pc := 157) dL_law_157 rfl 1 rfl ?_
                            refine K_aload_n (pc := 158) dL_law_158 rfl 2 rfl ?_
                            obtain ⟨v93, M94, hc95, h⟩ := obind2_e h
                            refine K_callS (g := mi_L_drives) (pc := 159) [.ref 0, .ref 1] [] ms_L_drives w_970 (k_L_drives  _ hc95) rfl rfl ⟨⟨Nat.le_of_ble_eq_true rfl, Nat.le_of_ble_eq_true rfl⟩, (show (kk + 282) + 14 ≤ 647149 by omega), (show (nn + 1692) + 84 ≤ 7160022 by omega)⟩ (Nat.le_of_ble_eq_true rfl) dL_law_159 (Kk_vk (kk + 296) (nn + 1776) rfl rfl fun hok96 => ?_)
                            refine K_if_eq (pc := 162) (tgt := 182) dL_law_162 (by decide) (fun c97 => ?_) (fun c97 => ?_)
                            · replace h := ifp c97 h
                              refine K_iconst (v := (0 : Int32)) (pc := 182) dL_law_182 (by decide) ?_
                              cases h
                              refine K_sub [0, 1, 2, 3, 5] rfl ?_
                              refine K_wide (k' := (kk + 318)) (n' := (nn + 1908)) (by omega) (by omega) ?_
                              exact hJ
                            · replace h := ifn c97 h
                              refine K_aload_n (pc := 165) dL_law_165 rfl 1 rfl ?_
                              refine K_aload_n (pc := 166) dL_law_166 rfl 2 rfl ?_
                              refine K_iload (pc := 167) dL_law_167 6 rfl ?_
                              refine K_bipush (v := (7 : Int32)) (pc := 169) dL_law_169 (by decide) ?_
                              refine K_idiv (pc := 171) dL_law_171 (by decide) ?_
                              obtain ⟨v98, M99, hc100, h⟩ := obind2_e h
                              refine K_callS (g := mi_L_slides) (pc := 172) [.ref 0, .ref 1, .int (v3 / (7 : Int32))] [] ms_L_slides w_961 (k_L_slides  (v3 / (7 : Int32)) _ hc100) rfl rfl ⟨⟨Nat.le_of_ble_eq_true rfl, Nat.le_of_ble_eq_true rfl⟩, (show (kk + 296) + 22 ≤ 647149 by omega), (show (nn + 1776) + 132 ≤ 7160022 by omega)⟩ (Nat.le_of_ble_eq_true rfl) dL_law_172 (Kk_vk (kk + 318) (nn + 1908) rfl rfl fun hok101 => ?_)
                              refine K_if_eq (pc := 175) (tgt := 182) dL_law_175 (by decide) (fun c102 => ?_) (fun c102 => ?_)
                              · replace h := ifp c102 h
                                refine K_iconst (v := (0 : Int32)) (pc := 182) dL_law_182 (by decide) ?_
                                cases h
                                refine K_sub [0, 1, 2, 3, 5] rfl ?_
                                exact hJ
                              · replace h := ifn c102 h
                                refine K_iconst (v := (1 : Int32)) (pc := 178) dL_law_178 (by decide) ?_
                                refine K_goto (pc := 179) (tgt := 183) dL_law_179 (by decide) ?_
                                cases h
                                refine K_sub [0, 1, 2, 3, 5] rfl ?_
                                exact hJ
/-! ===== walks of the methods, 14 ===== -/
set_option maxHeartbeats 4000000 in
set_option maxRecDepth 100000 in
theorem kL_X4_reads_L22 {κ : Kx} {E : En} {Q : State → Prop} {ρ : Type} {r : ρ} (a1 : Int32) (K53 : Wd → Option ρ) (K88 : Wd → Option ρ) (K165 : Wd → Option ρ) (K173 : Int32 → Wd → Option ρ) (hK53 : ∀ (M : Wd), K53 M = some r → J κ E mi_X4_reads Q 0 0 [(0, .ref 53)] M 53 []) (hK88 : ∀ (M : Wd), K88 M = some r → J κ E mi_X4_reads Q 0 0 [(0, .ref 53)] M 88 []) (hK165 : ∀ (M : Wd), K165 M = some r → J κ E mi_X4_reads Q 0 0 [(0, .ref 53)] M 165 []) (hK173 : ∀ (x3 : Int32) (M : Wd), K173 x3 M = some r → J κ E mi_X4_reads Q 0 0 [(0, .ref 53), (1, .int a1), (3, .int x3)] M 173 []) : ∀ (m : Nat) (x2 : Int32) (x3 : Int32) (x4 : Int32) (M : Wd), F_X4_reads_L22 a1 K53 K88 K165 K173 m x2 x3 x4 M = some r → J κ E mi_X4_reads Q 0 0 [(0, .ref 53), (1, .int a1), (2, .int x2), (3, .int x3), (4, .int x4)] M 22 [] := by
  intro m
  induction m with
  | zero => intro x2 x3 x4 M h; exact (nomatch (show (none : Option ρ) = some r from h))
  | succ m ih =>
    intro x2 x3 x4 M h
    unfold F_X4_reads_L22 at h
    refine J_iload (pc := 22) dX4_reads_22 4 rfl ?_
    refine J_if_eq (pc := 24) (tgt := 173) dX4_reads_24 (by decide) (fun c1 => ?_) (fun c1 => ?_)
    · replace h := ifp c1 h
      refine J_sub [0, 1, 3] rfl ?_
      exact hK173 _ _ h
    · replace h := ifn c1 h
      refine J_aload_n (pc := 27) dX4_reads_27 rfl 0 rfl ?_
      refine J_LS [(0, .ref 53), (1, .int a1), (2, .int x2), (3, .int x3), (4, .int x4)] [.ref 53] rfl rfl ?_
      refine get_53_15 (pc := 28) w_1038 dX4_reads_28 ?_
      refine J_aload_n (pc := 31) dX4_reads_31 rfl 0 rfl ?_
      refine get_53_2 (pc := 32) w_1025 dX4_reads_32 ?_
      refine J_icmp_eq (pc := 35) (tgt := 53) dX4_reads_35 (by decide) (fun c2 => ?_) (fun c2 => ?_)
      · replace h := ifp c2 h
        refine J_sub [0] rfl ?_
        exact hK53 _ h
      · replace h := ifn c2 h
        refine J_aload_n (pc := 38) dX4_reads_38 rfl 0 rfl ?_
        refine J_LS [(0, .ref 53), (1, .int a1), (2, .int x2), (3, .int x3), (4, .int x4)] [.ref 53] rfl rfl ?_
        refine get_53_1 (pc := 39) w_1024 dX4_reads_39 ?_
        refine J_aload_n (pc := 42) dX4_reads_42 rfl 0 rfl ?_
        refine get_53_15 (pc := 43) w_1038 dX4_reads_43 ?_
        obtain ⟨v3, e4, hk5, h⟩ := ldi_e h
        refine J_iald (c := 54) (N := 60) (pc := 46) ja_54 (Nat.le_of_ble_eq_true rfl) hk5 dX4_reads_46 ?_
        refine J_topi e4 ?_
        refine J_callS (g := mi_X4_isSign) (pc := 47) [.int v3] [] ms_X4_isSign w_1284 (k_X4_isSign v3 _) rfl rfl ⟨⟨Nat.le_of_ble_eq_true rfl, Nat.le_of_ble_eq_true rfl⟩, Nat.le_of_ble_eq_true rfl, Nat.le_of_ble_eq_true rfl⟩ (Nat.le_of_ble_eq_true rfl) dX4_reads_47 (Jk_v rfl rfl fun hok6 => ?_)
        refine J_if_ne (pc := 50) (tgt := 58) dX4_reads_50 (by decide) (fun c7 => ?_) (fun c7 => ?_)
        · replace h := ifn c7 h
          refine J_aload_n (pc := 58) dX4_reads_58 rfl 0 rfl ?_
          refine J_LS [(0, .ref 53), (1, .int a1), (2, .int x2), (3, .int x3), (4, .int x4)] [.ref 53] rfl rfl ?_
          refine get_53_1 (pc := 59) w_1024 dX4_reads_59 ?_
          refine J_aload_n (pc := 62) dX4_reads_62 rfl 0 rfl ?_
          refine get_53_15 (pc := 63) w_1038 dX4_reads_63 ?_
          obtain ⟨v8, e9, hk10, h⟩ := ldi_e h
          refine J_iald (c := 54) (N := 60) (pc := 66) ja_54 (Nat.le_of_ble_eq_true rfl) hk10 dX4_reads_66 ?_
          refine J_topi e9 ?_
          refine J_istore (pc := 67) dX4_reads_67 (Nat.le_of_ble_eq_true rfl) [1, 2, 3, 4, 5, 0] rfl ?_
          refine J_LS [(0, .ref 53), (1, .int a1), (2, .int x2), (3, .int x3), (4, .int x4), (5, .int v8)] [] rfl rfl ?_
          refine J_aload_n (pc := 69) dX4_reads_69 rfl 0 rfl ?_
          refine J_dup (pc := 70) dX4_reads_70 rfl ?_
          refine get_53_15 (pc := 71) w_1038 dX4_reads_71 ?_
          refine J_iconst (v := (1 : Int32)) (pc := 74) dX4_reads_74 (by decide) ?_
          refine J_iadd (pc := 75) dX4_reads_75 ?_
          refine put_53_15 (pc := 76) w_1038 dX4_reads_76 ?_
          refine J_aload_n (pc := 79) dX4_reads_79 rfl 0 rfl ?_
          refine J_LS [(0, .ref 53), (1, .int a1), (2, .int x2), (3, .int x3), (4, .int x4), (5, .int v8)] [.ref 53] rfl rfl ?_
          refine J_iload (pc := 80) dX4_reads_80 5 rfl ?_
          obtain ⟨v11, M12, hc13, h⟩ := obind2_e h
          refine J_callV (g := mi_X4_part) (ci := 4) (pc := 82) [.int v8] [] mv_X4_part w_1289 (k_X4_part v8 _ hc13) rfl (by decide) rfl rfl rfl ⟨⟨Nat.le_of_ble_eq_true rfl, Nat.le_of_ble_eq_true rfl⟩, Nat.le_of_ble_eq_true rfl, Nat.le_of_ble_eq_true rfl⟩ (Nat.le_of_ble_eq_true rfl) dX4_reads_82 (Jk_v rfl rfl fun hok14 => ?_)
          refine J_if_ne (pc := 85) (tgt := 93) dX4_reads_85 (by decide) (fun c15 => ?_) (fun c15 => ?_)
          · replace h := ifn c15 h
            refine J_iload_n (pc := 93) dX4_reads_93 rfl 2 rfl ?_
            refine J_LS [(0, .ref 53), (1, .int a1), (2, .int x2), (3, .int x3), (4, .int x4), (5, .int v8)] [.int x2] rfl rfl ?_
            obtain ⟨v16, M17, hv24, h⟩ := obind2_e h
            refine J_join [(0, .ref 53), (1, .int a1), (3, .int x3)] M17 111 [.int v16] ?_ (fun hJ => ?_)
            · refine J_istore_n (pc := 111) dX4_reads_111 rfl (Nat.le_of_ble_eq_true rfl) [1, 2, 0, 3] rfl ?_
              refine J_aload_n (pc := 112) dX4_reads_112 rfl 0 rfl ?_
              refine J_LS [(0, .ref 53), (1, .int a1), (2, .int v16), (3, .int x3)] [.ref 53] rfl rfl ?_
              refine J_dup (pc := 113) dX4_reads_113 rfl ?_
              refine get_53_20 (pc := 114) w_1043 dX4_reads_114 ?_
              refine J_iload_n (pc := 117) dX4_reads_117 rfl 2 rfl ?_
              obtain ⟨v25, e26, h⟩ := bnd_e h
              have hb28 : isB v25 := by rw [e26]; repeat (first | exact Or.inl rfl | exact Or.inr rfl | assumption | exact okB_b (by assumption) | apply isB_ite)
              refine J_join [(0, .ref 53), (1, .int a1), (2, .int v16), (3, .int x3)] M17 126 [.int v25, .int (M17.1 53 20), .ref 53] ?_ (fun hJ => ?_)
              · refine J_iadd (pc := 126) dX4_reads_126 ?_
                refine put_53_20 (pc := 127) w_1043 dX4_reads_127 ?_
                obtain ⟨v29, e30, h⟩ := bnd_e h
                refine J_iinc (v := v29) (pc := 130) dX4_reads_130 3 rfl (by rw [e30]; rfl) (Nat.le_of_ble_eq_true rfl) [1, 2, 3, 0] rfl ?_
                refine J_aload_n (pc := 133) dX4_reads_133 rfl 0 rfl ?_
                refine get_53_15 (pc := 134) w_1038 dX4_reads_134 ?_
                refine J_topi (y := (M17.1 53 15)) (Eq.symm (show (upI M17 53 20 ((M17.1 53 20) + v25)).1 53 15 = (M17.1 53 15) from (eI_kn (Nat.ne_of_beq_eq_false rfl) rfl))) ?_
                refine J_aload_n (pc := 137) dX4_reads_137 rfl 0 rfl ?_
                refine J_LS [(0, .ref 53), (1, .int a1), (2, .int v16), (3, .int v29)] [.ref 53, .int (M17.1 53 15)] rfl rfl ?_
                refine get_53_2 (pc := 138) w_1025 dX4_reads_138 ?_
                refine J_topi (y := (M17.1 53 2)) (Eq.symm (show (upI M17 53 20 ((M17.1 53 20) + v25)).1 53 2 = (M17.1 53 2) from (eI_kn (Nat.ne_of_beq_eq_false rfl) rfl))) ?_
                obtain ⟨v31, e32, h⟩ := bnd_e h
                have hb34 : isB v31 := by rw [e32]; repeat (first | exact Or.inl rfl | exact Or.inr rfl | assumption | exact okB_b (by assumption) | apply isB_ite)
                refine J_join [(0, .ref 53), (1, .int a1), (2, .int v16), (3, .int v29)] (upI M17 53 20 ((M17.1 53 20) + v25)) 149 [.int v31] ?_ (fun hJ => ?_)
                · refine J_istore (pc := 149) dX4_reads_149 (Nat.le_of_ble_eq_true rfl) [1, 2, 3, 4, 0] rfl ?_
                  refine J_iload (pc := 151) dX4_reads_151 4 rfl ?_
                  refine J_LS [(0, .ref 53), (1, .int a1), (2, .int v16), (3, .int v29), (4, .int v31)] [.int v31] rfl rfl ?_
                  refine J_if_eq (pc := 153) (tgt := 170) dX4_reads_153 (by decide) (fun c35 => ?_) (fun c35 => ?_)
                  · replace h := ifp c35 h
                    refine J_goto (pc := 170) (tgt := 22) dX4_reads_170 (by decide) ?_
                    exact ih _ _ _ _ h
                  · replace h := ifn c35 h
                    refine J_aload_n (pc := 156) dX4_reads_156 rfl 0 rfl ?_
                    refine J_bipush (v := (59 : Int32)) (pc := 157) dX4_reads_157 (by decide) ?_
                    obtain ⟨v36, M37, hc38, h⟩ := obind2_e h
                    refine J_callV (g := mi_X4_goesOn) (ci := 4) (pc := 159) [.int (59 : Int32)] [] mv_X4_goesOn w_1301 (k_X4_goesOn (59 : Int32) _ hc38) rfl (by decide) rfl rfl rfl ⟨⟨Nat.le_of_ble_eq_true rfl, Nat.le_of_ble_eq_true rfl⟩, Nat.le_of_ble_eq_true rfl, Nat.le_of_ble_eq_true rfl⟩ (Nat.le_of_ble_eq_true rfl) dX4_reads_159 (Jk_v rfl rfl fun hok39 => ?_)
                    refine J_if_ne (pc := 162) (tgt := 170) dX4_reads_162 (by decide) (fun c40 => ?_) (fun c40 => ?_)
                    · replace h := ifn c40 h
                      refine J_goto (pc := 170) (tgt := 22) dX4_reads_170 (by decide) ?_
                      exact ih _ _ _ _ h
                    · replace h := ifp c40 h
                      refine J_sub [0] rfl ?_
                      exact hK165 _ h
                · refine J_icmp_ge (pc := 141) (tgt := 148) dX4_reads_141 (by decide) (fun c33 => ?_) (fun c33 => ?_)
                  · refine J_iconst (v := (0 : Int32)) (pc := 148) dX4_reads_148 (by decide) ?_
                    refine J_topi (y := v31) (by rw [e32, if_pos c33]) ?_
                    exact hJ
                  · refine J_iconst (v := (1 : Int32)) (pc := 144) dX4_reads_144 (by decide) ?_
                    refine J_goto (pc := 145) (tgt := 149) dX4_reads_145 (by decide) ?_
                    refine J_topi (y := v31) (by rw [e32, if_neg c33]) ?_
                    exact hJ
              · refine J_if_eq (pc := 118) (tgt := 125) dX4_reads_118 (by decide) (fun c27 => ?_) (fun c27 => ?_)
                · refine J_iconst (v := (0 : Int32)) (pc := 125) dX4_reads_125 (by decide) ?_
                  refine J_topi (y := v25) (by rw [e26, if_pos c27]) ?_
                  exact hJ
                · refine J_iconst (v := (1 : Int32)) (pc := 121) dX4_reads_121 (by decide) ?_
                  refine J_goto (pc := 122) (tgt := 126) dX4_reads_122 (by decide) ?_
                  refine J_topi (y := v25) (by rw [e26, if_neg c27]) ?_
                  exact hJ
            · replace h := hv24
              refine J_if_eq (pc := 94) (tgt := 110) dX4_reads_94 (by decide) (fun c18 => ?_) (fun c18 => ?_)
              · replace h := ifp c18 h
                refine J_iconst (v := (0 : Int32)) (pc := 110) dX4_reads_110 (by decide) ?_
                cases h
                refine J_sub [0, 1, 3] rfl ?_
                exact hJ
              · replace h := ifn c18 h
                refine J_aload_n (pc := 97) dX4_reads_97 rfl 0 rfl ?_
                refine J_iload (pc := 98) dX4_reads_98 5 rfl ?_
                refine J_LS [(0, .ref 53), (1, .int a1), (2, .int x2), (3, .int x3), (4, .int x4), (5, .int v8)] [.int v8, .ref 53] rfl rfl ?_
                obtain ⟨v19, M20, hc21, h⟩ := obind2_e h
                refine J_callV (g := mi_X4_does) (ci := 4) (pc := 100) [.int v8] [] mv_X4_does w_1313 (k_X4_does v8 _ hc21) rfl (by decide) rfl rfl rfl ⟨⟨Nat.le_of_ble_eq_true rfl, Nat.le_of_ble_eq_true rfl⟩, Nat.le_of_ble_eq_true rfl, Nat.le_of_ble_eq_true rfl⟩ (Nat.le_of_ble_eq_true rfl) dX4_reads_100 (Jk_v rfl rfl fun hok22 => ?_)
                refine J_if_eq (pc := 103) (tgt := 110) dX4_reads_103 (by decide) (fun c23 => ?_) (fun c23 => ?_)
                · replace h := ifp c23 h
                  refine J_iconst (v := (0 : Int32)) (pc := 110) dX4_reads_110 (by decide) ?_
                  cases h
                  refine J_sub [0, 1, 3] rfl ?_
                  exact hJ
                · replace h := ifn c23 h
                  refine J_iconst (v := (1 : Int32)) (pc := 106) dX4_reads_106 (by decide) ?_
                  refine J_goto (pc := 107) (tgt := 111) dX4_reads_107 (by decide) ?_
                  cases h
                  refine J_sub [0, 1, 3] rfl ?_
                  exact hJ
          · replace h := ifp c15 h
            refine J_sub [0] rfl ?_
            exact hK88 _ h
        · replace h := ifp c7 h
          refine J_sub [0] rfl ?_
          exact hK53 _ h
set_option maxHeartbeats 4000000 in
set_option maxRecDepth 100000 in
theorem k_X4_reads {E : En} (a1 : Int32) (M : Wd) {r : Int32} {M' : Wd} (h : F_X4_reads a1 M = some (r, M')) : Con E mi_X4_reads [.ref 53, .int a1] M (.inl (some (.int r))) M' := by
  unfold F_X4_reads at h
  refine Con.of (by decide) rfl (Nat.le_of_ble_eq_true rfl) (fun κ => ?_)
  show J κ E mi_X4_reads _ 0 0 [(0, .ref 53), (1, .int a1)] M 0 []
  refine J_aload_n (pc := 0) dX4_reads_0 rfl 0 rfl ?_
  refine J_iconst (v := (0 : Int32)) (pc := 1) dX4_reads_1 (by decide) ?_
  refine put_53_15 (pc := 2) w_1038 dX4_reads_2 ?_
  refine J_aload_n (pc := 5) dX4_reads_5 rfl 0 rfl ?_
  refine J_LS [(0, .ref 53), (1, .int a1)] [.ref 53] rfl rfl ?_
  refine J_iconst (v := (0 : Int32)) (pc := 6) dX4_reads_6 (by decide) ?_
  refine put_53_20 (pc := 7) w_1043 dX4_reads_7 ?_
  refine J_aload_n (pc := 10) dX4_reads_10 rfl 0 rfl ?_
  refine J_iconst (v := (0 : Int32)) (pc := 11) dX4_reads_11 (by decide) ?_
  refine put_53_19 (pc := 12) w_1042 (Or.inl rfl) dX4_reads_12 ?_
  refine J_iload_n (pc := 15) dX4_reads_15 rfl 1 rfl ?_
  refine J_LS [(0, .ref 53), (1, .int a1)] [.int a1] rfl rfl ?_
  refine J_istore_n (pc := 16) dX4_reads_16 rfl (Nat.le_of_ble_eq_true rfl) [1, 2, 0] rfl ?_
  refine J_iconst (v := (0 : Int32)) (pc := 17) dX4_reads_17 (by decide) ?_
  refine J_istore_n (pc := 18) dX4_reads_18 rfl (Nat.le_of_ble_eq_true rfl) [1, 2, 3, 0] rfl ?_
  refine J_LS [(0, .ref 53), (1, .int a1), (2, .int a1), (3, .int (0 : Int32))] [] rfl rfl ?_
  refine J_iconst (v := (1 : Int32)) (pc := 19) dX4_reads_19 (by decide) ?_
  refine J_istore (pc := 20) dX4_reads_20 (Nat.le_of_ble_eq_true rfl) [1, 2, 3, 4, 0] rfl ?_
  refine kL_X4_reads_L22 _ _ _ _ _ (fun M41 h => ?_) (fun M42 h => ?_) (fun M43 h => ?_) (fun v44 M45 h => ?_) fuelN _ _ _ _ h
  · refine J_aload_n (pc := 53) dX4_reads_53 rfl 0 rfl ?_
    refine J_LS [(0, .ref 53)] [.ref 53] rfl rfl ?_
    refine get_53_15 (pc := 54) w_1038 dX4_reads_54 ?_
    cases h
    exact J_ireturn dX4_reads_57 rfl rfl rfl rfl rfl
  · refine J_aload_n (pc := 88) dX4_reads_88 rfl 0 rfl ?_
    refine J_LS [(0, .ref 53)] [.ref 53] rfl rfl ?_
    refine get_53_15 (pc := 89) w_1038 dX4_reads_89 ?_
    cases h
    exact J_ireturn dX4_reads_92 rfl rfl rfl rfl rfl
  · refine J_aload_n (pc := 165) dX4_reads_165 rfl 0 rfl ?_
    refine J_LS [(0, .ref 53)] [.ref 53] rfl rfl ?_
    refine get_53_15 (pc := 166) w_1038 dX4_reads_166 ?_
    cases h
    exact J_ireturn dX4_reads_169 rfl rfl rfl rfl rfl
  · refine J_aload_n (pc := 173) dX4_reads_173 rfl 0 rfl ?_
    refine J_LS [(0, .ref 53), (1, .int a1), (3, .int v44)] [.ref 53] rfl rfl ?_
    refine J_iconst (v := (1 : Int32)) (pc := 174) dX4_reads_174 (by decide) ?_
    refine put_53_19 (pc := 175) w_1042 (Or.inr rfl) dX4_reads_175 ?_
    refine J_aload_n (pc := 178) dX4_reads_178 rfl 0 rfl ?_
    refine get_53_3 (pc := 179) w_1026 dX4_reads_179 ?_
    refine J_bipush (v := (81 : Int32)) (pc := 182) dX4_reads_182 (by decide) ?_
    refine J_iload_n (pc := 184) dX4_reads_184 rfl 1 rfl ?_
    refine J_LS [(0, .ref 53), (1, .int a1), (3, .int v44)] [.int a1, .int (81 : Int32), .ref 55] rfl rfl ?_
    obtain ⟨v46, e47, h⟩ := bnd_e h
    refine J_join [(0, .ref 53)] (upI M45 53 19 (1 : Int32)) 214 [.int v46, .int (81 : Int32), .ref 55] ?_ (fun hJ => ?_)
    · refine J_iast (c := 55) (N := 82) (pc := 214) (fun _ => ja_55) (Nat.le_of_ble_eq_true rfl) (vpc rfl) dX4_reads_214 ?_
      refine J_M (upI (upI M45 53 19 (1 : Int32)) 55 81 v46) rfl ?_
      refine J_aload_n (pc := 215) dX4_reads_215 rfl 0 rfl ?_
      refine get_53_2 (pc := 216) w_1025 dX4_reads_216 ?_
      refine J_topi (y := (M45.1 53 2)) (Eq.symm (show (upI (upI M45 53 19 (1 : Int32)) 55 81 v46).1 53 2 = (M45.1 53 2) from (eI_ne (Nat.ne_of_beq_eq_false rfl) (eI_kn (Nat.ne_of_beq_eq_false rfl) rfl)))) ?_
      cases h
      exact J_ireturn dX4_reads_219 rfl rfl rfl rfl rfl
    · refine J_if_ne (pc := 185) (tgt := 198) dX4_reads_185 (by decide) (fun c48 => ?_) (fun c48 => ?_)
      · refine J_aload_n (pc := 198) dX4_reads_198 rfl 0 rfl ?_
        refine get_53_20 (pc := 199) w_1043 dX4_reads_199 ?_
        refine J_topi (y := (M45.1 53 20)) (Eq.symm (show (upI M45 53 19 (1 : Int32)).1 53 20 = (M45.1 53 20) from (eI_kn (Nat.ne_of_beq_eq_false rfl) rfl))) ?_
        refine J_iload_n (pc := 202) dX4_reads_202 rfl 2 rfl ?_
        refine J_LS [(0, .ref 53), (1, .int a1), (3, .int v44)] [.int v44, .int (M45.1 53 20), .int (81 : Int32), .ref 55] rfl rfl ?_
        refine J_icmp_ge (pc := 203) (tgt := 213) dX4_reads_203 (by decide) (fun c49 => ?_) (fun c49 => ?_)
        · refine J_iconst (v := (-1 : Int32)) (pc := 213) dX4_reads_213 (by decide) ?_
          refine J_sub [0] rfl ?_
          refine J_topi (y := v46) (by rw [e47, if_neg c48, if_pos c49]) ?_
          exact hJ
        · refine J_aload_n (pc := 206) dX4_reads_206 rfl 0 rfl ?_
          refine get_53_20 (pc := 207) w_1043 dX4_reads_207 ?_
          refine J_topi (y := (M45.1 53 20)) (Eq.symm (show (upI M45 53 19 (1 : Int32)).1 53 20 = (M45.1 53 20) from (eI_kn (Nat.ne_of_beq_eq_false rfl) rfl))) ?_
          refine J_goto (pc := 210) (tgt := 214) dX4_reads_210 (by decide) ?_
          refine J_sub [0] rfl ?_
          refine J_topi (y := v46) (by rw [e47, if_neg c48, if_neg c49]) ?_
          exact hJ
      · refine J_aload_n (pc := 188) dX4_reads_188 rfl 0 rfl ?_
        refine get_53_3 (pc := 189) w_1026 dX4_reads_189 ?_
        refine J_bipush (v := (81 : Int32)) (pc := 192) dX4_reads_192 (by decide) ?_
        refine J_iald (c := 55) (N := 82) (pc := 194) ja_55 (Nat.le_of_ble_eq_true rfl) (vpc rfl) dX4_reads_194 ?_
        refine J_topi (x := (upI M45 53 19 (1 : Int32)).1 55 (Int32.toNatClampNeg 81)) (y := (M45.1 55 81)) (Eq.symm (a := (upI M45 53 19 (1 : Int32)).1 55 (Int32.toNatClampNeg 81)) (show (upI M45 53 19 (1 : Int32)).1 55 81 = (M45.1 55 81) from (eI_ne (Nat.ne_of_beq_eq_false rfl) rfl))) ?_
        refine J_goto (pc := 195) (tgt := 214) dX4_reads_195 (by decide) ?_
        refine J_sub [0] rfl ?_
        refine J_topi (y := v46) (by rw [e47, if_pos c48]) ?_
        exact hJ
set_option maxHeartbeats 4000000 in
set_option maxRecDepth 100000 in
theorem k_X4_firstError {E : En} (M : Wd) {r : Int32} {M' : Wd} (h : F_X4_firstError M = some (r, M')) : Con E mi_X4_firstError [.ref 53] M (.inl (some (.int r))) M' := by
  unfold F_X4_firstError at h
  refine Con.of (by decide) rfl (Nat.le_of_ble_eq_true rfl) (fun κ => ?_)
  show J κ E mi_X4_firstError _ 0 0 [(0, .ref 53)] M 0 []
  refine J_aload_n (pc := 0) dX4_firstError_0 rfl 0 rfl ?_
  refine J_iconst (v := (0 : Int32)) (pc := 1) dX4_firstError_1 (by decide) ?_
  refine put_53_0 (pc := 2) w_1023 dX4_firstError_2 ?_
  refine J_aload_n (pc := 5) dX4_firstError_5 rfl 0 rfl ?_
  refine J_LS [(0, .ref 53)] [.ref 53] rfl rfl ?_
  refine J_iconst (v := (0 : Int32)) (pc := 6) dX4_firstError_6 (by decide) ?_
  obtain ⟨v1, M2, hc3, h⟩ := obind2_e h
  refine J_callV (g := mi_X4_reads) (ci := 4) (pc := 7) [.int (0 : Int32)] [] mv_X4_reads w_1280 (k_X4_reads (0 : Int32) _ hc3) rfl (by decide) rfl rfl rfl ⟨⟨Nat.le_of_ble_eq_true rfl, Nat.le_of_ble_eq_true rfl⟩, Nat.le_of_ble_eq_true rfl, Nat.le_of_ble_eq_true rfl⟩ (Nat.le_of_ble_eq_true rfl) dX4_firstError_7 (Jk_v rfl rfl fun hok4 => ?_)
  cases h
  exact J_ireturn dX4_firstError_10 rfl rfl rfl rfl rfl
set_option maxHeartbeats 4000000 in
set_option maxRecDepth 100000 in
theorem k_X4_work {E : En} (M : Wd) {r : Int32} {M' : Wd} (h : F_X4_work M = some (r, M')) : Con E mi_X4_work [.ref 53] M (.inl (some (.int r))) M' := by
  unfold F_X4_work at h
  refine Con.of (by decide) rfl (Nat.le_of_ble_eq_true rfl) (fun κ => ?_)
  show J κ E mi_X4_work _ 0 0 [(0, .ref 53)] M 0 []
  refine J_aload_n (pc := 0) dX4_work_0 rfl 0 rfl ?_
  refine J_iconst (v := (0 : Int32)) (pc := 1) dX4_work_1 (by decide) ?_
  obtain ⟨v1, M2, hc3, h⟩ := obind2_e h
  refine J_callV (g := mi_X4_reads) (ci := 4) (pc := 2) [.int (0 : Int32)] [] mv_X4_reads w_1280 (k_X4_reads (0 : Int32) _ hc3) rfl (by decide) rfl rfl rfl ⟨⟨Nat.le_of_ble_eq_true rfl, Nat.le_of_ble_eq_true rfl⟩, Nat.le_of_ble_eq_true rfl, Nat.le_of_ble_eq_true rfl⟩ (Nat.le_of_ble_eq_true rfl) dX4_work_2 (Jk_v rfl rfl fun hok4 => ?_)
  refine J_pop (pc := 5) dX4_work_5 rfl ?_
  refine J_aload_n (pc := 6) dX4_work_6 rfl 0 rfl ?_
  refine J_LS [(0, .ref 53)] [.ref 53] rfl rfl ?_
  refine J_aload_n (pc := 7) dX4_work_7 rfl 0 rfl ?_
  refine get_53_19 (pc := 8) w_1042 dX4_work_8 ?_
  obtain ⟨v5, e6, h⟩ := bnd_e h
  have hb8 : isB v5 := by rw [e6]; repeat (first | exact Or.inl rfl | exact Or.inr rfl | assumption | exact okB_b (by assumption) | apply isB_ite)
  refine J_join [(0, .ref 53)] M2 19 [.int v5, .ref 53] ?_ (fun hJ => ?_)
  · obtain ⟨v9, M10, hc11, h⟩ := obind2_e h
    refine J_callV (g := mi_X4_refused) (ci := 4) (pc := 19) [.int v5] [] mv_X4_refused w_1120 (k_X4_refused v5 _ hc11) rfl (by decide) rfl rfl rfl ⟨⟨Nat.le_of_ble_eq_true rfl, Nat.le_of_ble_eq_true rfl⟩, Nat.le_of_ble_eq_true rfl, Nat.le_of_ble_eq_true rfl⟩ (Nat.le_of_ble_eq_true rfl) dX4_work_19 (Jk_v rfl rfl fun hok12 => ?_)
    refine J_if_eq (pc := 22) (tgt := 27) dX4_work_22 (by decide) (fun c13 => ?_) (fun c13 => ?_)
    · replace h := ifp c13 h
      refine J_aload_n (pc := 27) dX4_work_27 rfl 0 rfl ?_
      obtain ⟨M14, hc15, h⟩ := obind_e h
      refine J_callV (g := mi_X4_saves) (ci := 4) (pc := 28) [] [] mv_X4_saves w_1124 (k_X4_saves _ hc15) rfl (by decide) rfl rfl rfl ⟨⟨Nat.le_of_ble_eq_true rfl, Nat.le_of_ble_eq_true rfl⟩, Nat.le_of_ble_eq_true rfl, Nat.le_of_ble_eq_true rfl⟩ (Nat.le_of_ble_eq_true rfl) dX4_work_28 (Jk_0 rfl rfl ?_)
      refine J_aload_n (pc := 31) dX4_work_31 rfl 0 rfl ?_
      refine J_LS [(0, .ref 53)] [.ref 53] rfl rfl ?_
      refine J_iconst (v := (1 : Int32)) (pc := 32) dX4_work_32 (by decide) ?_
      obtain ⟨v16, M17, hc18, h⟩ := obind2_e h
      refine J_callV (g := mi_X4_reads) (ci := 4) (pc := 33) [.int (1 : Int32)] [] mv_X4_reads w_1280 (k_X4_reads (1 : Int32) _ hc18) rfl (by decide) rfl rfl rfl ⟨⟨Nat.le_of_ble_eq_true rfl, Nat.le_of_ble_eq_true rfl⟩, Nat.le_of_ble_eq_true rfl, Nat.le_of_ble_eq_true rfl⟩ (Nat.le_of_ble_eq_true rfl) dX4_work_33 (Jk_v rfl rfl fun hok19 => ?_)
      refine J_pop (pc := 36) dX4_work_36 rfl ?_
      refine J_aload_n (pc := 37) dX4_work_37 rfl 0 rfl ?_
      refine J_iconst (v := (0 : Int32)) (pc := 38) dX4_work_38 (by decide) ?_
      refine put_53_2 (pc := 39) w_1025 dX4_work_39 ?_
      refine J_aload_n (pc := 42) dX4_work_42 rfl 0 rfl ?_
      refine J_LS [(0, .ref 53)] [.ref 53] rfl rfl ?_
      refine get_53_20 (pc := 43) w_1043 dX4_work_43 ?_
      refine J_topi (y := (M17.1 53 20)) (Eq.symm (show (upI M17 53 2 (0 : Int32)).1 53 20 = (M17.1 53 20) from (eI_kn (Nat.ne_of_beq_eq_false rfl) rfl))) ?_
      cases h
      exact J_ireturn dX4_work_46 rfl rfl rfl rfl rfl
    · replace h := ifn c13 h
      refine J_iconst (v := (0 : Int32)) (pc := 25) dX4_work_25 (by decide) ?_
      cases h
      exact J_ireturn dX4_work_26 rfl rfl rfl rfl rfl
  · refine J_if_eq (pc := 11) (tgt := 18) dX4_work_11 (by decide) (fun c7 => ?_) (fun c7 => ?_)
    · refine J_iconst (v := (1 : Int32)) (pc := 18) dX4_work_18 (by decide) ?_
      refine J_topi (y := v5) (by rw [e6, if_pos c7]) ?_
      exact hJ
    · refine J_iconst (v := (0 : Int32)) (pc := 14) dX4_work_14 (by decide) ?_
      refine J_goto (pc := 15) (tgt := 19) dX4_work_15 (by decide) ?_
      refine J_topi (y := v5) (by rw [e6, if_neg c7]) ?_
      exact hJ
set_option maxHeartbeats 4000000 in
set_option maxRecDepth 100000 in
theorem k_X4_hasStopped {E : En} (M : Wd) {r : Int32} {M' : Wd} (h : F_X4_hasStopped M = some (r, M')) : Con E mi_X4_hasStopped [.ref 53] M (.inl (some (.int r))) M' := by
  unfold F_X4_hasStopped at h
  refine Con.of (by decide) rfl (Nat.le_of_ble_eq_true rfl) (fun κ => ?_)
  show J κ E mi_X4_hasStopped _ 0 0 [(0, .ref 53)] M 0 []
  refine J_aload_n (pc := 0) dX4_hasStopped_0 rfl 0 rfl ?_
  refine J_iconst (v := (0 : Int32)) (pc := 1) dX4_hasStopped_1 (by decide) ?_
  refine put_53_0 (pc := 2) w_1023 dX4_hasStopped_2 ?_
  refine J_aload_n (pc := 5) dX4_hasStopped_5 rfl 0 rfl ?_
  refine J_LS [(0, .ref 53)] [.ref 53] rfl rfl ?_
  refine get_53_3 (pc := 6) w_1026 dX4_hasStopped_6 ?_
  refine J_bipush (v := (81 : Int32)) (pc := 9) dX4_hasStopped_9 (by decide) ?_
  refine J_iald (c := 55) (N := 82) (pc := 11) ja_55 (Nat.le_of_ble_eq_true rfl) (vpc rfl) dX4_hasStopped_11 ?_
  refine J_topi (x := (upI M 53 0 (0 : Int32)).1 55 (Int32.toNatClampNeg 81)) (y := (M.1 55 81)) (Eq.symm (a := (upI M 53 0 (0 : Int32)).1 55 (Int32.toNatClampNeg 81)) (show (upI M 53 0 (0 : Int32)).1 55 81 = (M.1 55 81) from (eI_ne (Nat.ne_of_beq_eq_false rfl) rfl))) ?_
  refine J_iconst (v := (-1 : Int32)) (pc := 12) dX4_hasStopped_12 (by decide) ?_
  refine J_icmp_eq (pc := 13) (tgt := 20) dX4_hasStopped_13 (by decide) (fun c1 => ?_) (fun c1 => ?_)
  · replace h := ifp c1 h
    refine J_iconst (v := (0 : Int32)) (pc := 20) dX4_hasStopped_20 (by decide) ?_
    cases h
    exact J_zreturn dX4_hasStopped_21 rfl (Or.inl rfl) rfl rfl rfl rfl
  · replace h := ifn c1 h
    refine J_iconst (v := (1 : Int32)) (pc := 16) dX4_hasStopped_16 (by decide) ?_
    refine J_goto (pc := 17) (tgt := 21) dX4_hasStopped_17 (by decide) ?_
    cases h
    exact J_zreturn dX4_hasStopped_21 rfl (Or.inr rfl) rfl rfl rfl rfl
set_option maxHeartbeats 4000000 in
set_option maxRecDepth 100000 in
theorem k_X4_stoppedPart {E : En} (M : Wd) {r : Int32} {M' : Wd} (h : F_X4_stoppedPart M = some (r, M')) : Con E mi_X4_stoppedPart [.ref 53] M (.inl (some (.int r))) M' := by
  unfold F_X4_stoppedPart at h
  refine Con.of (by decide) rfl (Nat.le_of_ble_eq_true rfl) (fun κ => ?_)
  show J κ E mi_X4_stoppedPart _ 0 0 [(0, .ref 53)] M 0 []
  refine J_aload_n (pc := 0) dX4_stoppedPart_0 rfl 0 rfl ?_
  refine J_aload_n (pc := 1) dX4_stoppedPart_1 rfl 0 rfl ?_
  refine J_LS [(0, .ref 53)] [.ref 53, .ref 53] rfl rfl ?_
  refine get_53_3 (pc := 2) w_1026 dX4_stoppedPart_2 ?_
  refine J_bipush (v := (81 : Int32)) (pc := 5) dX4_stoppedPart_5 (by decide) ?_
  refine J_iald (c := 55) (N := 82) (pc := 7) ja_55 (Nat.le_of_ble_eq_true rfl) (vpc rfl) dX4_stoppedPart_7 ?_
  refine J_topi (x := M.1 55 (Int32.toNatClampNeg 81)) (y := (M.1 55 81)) (Eq.symm (a := M.1 55 (Int32.toNatClampNeg 81)) (show M.1 55 81 = (M.1 55 81) from rfl)) ?_
  refine J_iconst (v := (-1 : Int32)) (pc := 8) dX4_stoppedPart_8 (by decide) ?_
  obtain ⟨v1, e2, h⟩ := bnd_e h
  have hb4 : isB v1 := by rw [e2]; repeat (first | exact Or.inl rfl | exact Or.inr rfl | assumption | exact okB_b (by assumption) | apply isB_ite)
  refine J_join [(0, .ref 53)] M 17 [.int v1, .ref 53] ?_ (fun hJ => ?_)
  · obtain ⟨v5, M6, hc7, h⟩ := obind2_e h
    refine J_callV (g := mi_X4_refused) (ci := 4) (pc := 17) [.int v1] [] mv_X4_refused w_1120 (k_X4_refused v1 _ hc7) rfl (by decide) rfl rfl rfl ⟨⟨Nat.le_of_ble_eq_true rfl, Nat.le_of_ble_eq_true rfl⟩, Nat.le_of_ble_eq_true rfl, Nat.le_of_ble_eq_true rfl⟩ (Nat.le_of_ble_eq_true rfl) dX4_stoppedPart_17 (Jk_v rfl rfl fun hok8 => ?_)
    refine J_if_eq (pc := 20) (tgt := 27) dX4_stoppedPart_20 (by decide) (fun c9 => ?_) (fun c9 => ?_)
    · replace h := ifp c9 h
      refine J_aload_n (pc := 27) dX4_stoppedPart_27 rfl 0 rfl ?_
      refine get_53_3 (pc := 28) w_1026 dX4_stoppedPart_28 ?_
      refine J_bipush (v := (81 : Int32)) (pc := 31) dX4_stoppedPart_31 (by decide) ?_
      refine J_iald (c := 55) (N := 82) (pc := 33) ja_55 (Nat.le_of_ble_eq_true rfl) (vpc rfl) dX4_stoppedPart_33 ?_
      refine J_topi (x := M6.1 55 (Int32.toNatClampNeg 81)) (y := (M6.1 55 81)) (Eq.symm (a := M6.1 55 (Int32.toNatClampNeg 81)) (show M6.1 55 81 = (M6.1 55 81) from rfl)) ?_
      cases h
      exact J_ireturn dX4_stoppedPart_34 rfl rfl rfl rfl rfl
    · replace h := ifn c9 h
      refine J_iconst (v := (0 : Int32)) (pc := 23) dX4_stoppedPart_23 (by decide) ?_
      refine J_goto (pc := 24) (tgt := 34) dX4_stoppedPart_24 (by decide) ?_
      cases h
      exact J_ireturn dX4_stoppedPart_34 rfl rfl rfl rfl rfl
  · refine J_icmp_ne (pc := 9) (tgt := 16) dX4_stoppedPart_9 (by decide) (fun c3 => ?_) (fun c3 => ?_)
    · refine J_iconst (v := (0 : Int32)) (pc := 16) dX4_stoppedPart_16 (by decide) ?_
      refine J_topi (y := v1) (by rw [e2, if_neg c3]) ?_
      exact hJ
    · refine J_iconst (v := (1 : Int32)) (pc := 12) dX4_stoppedPart_12 (by decide) ?_
      refine J_goto (pc := 13) (tgt := 17) dX4_stoppedPart_13 (by decide) ?_
      refine J_topi (y := v1) (by rw [e2, if_pos c3]) ?_
      exact hJ
set_option maxHeartbeats 4000000 in
set_option maxRecDepth 100000 in
theorem k_X4_undo {E : En} (M : Wd) {r : Int32} {M' : Wd} (h : F_X4_undo M = some (r, M')) : Con E mi_X4_undo [.ref 53] M (.inl (some (.int r))) M' := by
  unfold F_X4_undo at h
  refine Con.of (by decide) rfl (Nat.le_of_ble_eq_true rfl) (fun κ => ?_)
  show J κ E mi_X4_undo _ 0 0 [(0, .ref 53)] M 0 []
  refine J_aload_n (pc := 0) dX4_undo_0 rfl 0 rfl ?_
  refine J_aload_n (pc := 1) dX4_undo_1 rfl 0 rfl ?_
  refine J_LS [(0, .ref 53)] [.ref 53, .ref 53] rfl rfl ?_
  refine get_53_5 (pc := 2) w_1028 dX4_undo_2 ?_
  obtain ⟨v1, e2, h⟩ := bnd_e h
  have hb4 : isB v1 := by rw [e2]; repeat (first | exact Or.inl rfl | exact Or.inr rfl | assumption | exact okB_b (by assumption) | apply isB_ite)
  refine J_join [(0, .ref 53)] M 13 [.int v1, .ref 53] ?_ (fun hJ => ?_)
  · obtain ⟨v5, M6, hc7, h⟩ := obind2_e h
    refine J_callV (g := mi_X4_refused) (ci := 4) (pc := 13) [.int v1] [] mv_X4_refused w_1120 (k_X4_refused v1 _ hc7) rfl (by decide) rfl rfl rfl ⟨⟨Nat.le_of_ble_eq_true rfl, Nat.le_of_ble_eq_true rfl⟩, Nat.le_of_ble_eq_true rfl, Nat.le_of_ble_eq_true rfl⟩ (Nat.le_of_ble_eq_true rfl) dX4_undo_13 (Jk_v rfl rfl fun hok8 => ?_)
    refine J_if_eq (pc := 16) (tgt := 21) dX4_undo_16 (by decide) (fun c9 => ?_) (fun c9 => ?_)
    · replace h := ifp c9 h
      refine J_aload_n (pc := 21) dX4_undo_21 rfl 0 rfl ?_
      refine J_dup (pc := 22) dX4_undo_22 rfl ?_
      refine get_53_5 (pc := 23) w_1028 dX4_undo_23 ?_
      refine J_iconst (v := (1 : Int32)) (pc := 26) dX4_undo_26 (by decide) ?_
      refine J_isub (pc := 27) dX4_undo_27 ?_
      refine put_53_5 (pc := 28) w_1028 dX4_undo_28 ?_
      refine J_aload_n (pc := 31) dX4_undo_31 rfl 0 rfl ?_
      refine J_LS [(0, .ref 53)] [.ref 53] rfl rfl ?_
      refine get_53_4 (pc := 32) w_1027 dX4_undo_32 ?_
      refine J_bipush (v := (82 : Int32)) (pc := 35) dX4_undo_35 (by decide) ?_
      refine J_aload_n (pc := 37) dX4_undo_37 rfl 0 rfl ?_
      refine get_53_5 (pc := 38) w_1028 dX4_undo_38 ?_
      refine J_topi (y := ((M6.1 53 5) - (1 : Int32))) (Eq.symm (show (upI M6 53 5 ((M6.1 53 5) - (1 : Int32))).1 53 5 = ((M6.1 53 5) - (1 : Int32)) from eI_kk)) ?_
      refine J_imul (pc := 41) dX4_undo_41 ?_
      refine J_aload_n (pc := 42) dX4_undo_42 rfl 0 rfl ?_
      refine J_LS [(0, .ref 53)] [.ref 53, .int ((82 : Int32) * ((M6.1 53 5) - (1 : Int32))), .ref 56] rfl rfl ?_
      refine get_53_3 (pc := 43) w_1026 dX4_undo_43 ?_
      refine J_iconst (v := (0 : Int32)) (pc := 46) dX4_undo_46 (by decide) ?_
      obtain ⟨M10, hc11, h⟩ := obind_e h
      refine J_callS (g := mi_X4_copyState) (pc := 47) [.ref 56, .int ((82 : Int32) * ((M6.1 53 5) - (1 : Int32))), .ref 55, .int (0 : Int32)] [] ms_X4_copyState w_1128 (k_X4_copyState_56_55 ((82 : Int32) * ((M6.1 53 5) - (1 : Int32))) (0 : Int32) _ hc11) rfl rfl ⟨⟨Nat.le_of_ble_eq_true rfl, Nat.le_of_ble_eq_true rfl⟩, Nat.le_of_ble_eq_true rfl, Nat.le_of_ble_eq_true rfl⟩ (Nat.le_of_ble_eq_true rfl) dX4_undo_47 (Jk_0 rfl rfl ?_)
      refine J_aload_n (pc := 50) dX4_undo_50 rfl 0 rfl ?_
      refine get_53_5 (pc := 51) w_1028 dX4_undo_51 ?_
      cases h
      exact J_ireturn dX4_undo_54 rfl rfl rfl rfl rfl
    · replace h := ifn c9 h
      refine J_iconst (v := (0 : Int32)) (pc := 19) dX4_undo_19 (by decide) ?_
      cases h
      exact J_ireturn dX4_undo_20 rfl rfl rfl rfl rfl
  · refine J_if_le (pc := 5) (tgt := 12) dX4_undo_5 (by decide) (fun c3 => ?_) (fun c3 => ?_)
    · refine J_iconst (v := (1 : Int32)) (pc := 12) dX4_undo_12 (by decide) ?_
      refine J_topi (y := v1) (by rw [e2, if_pos c3]) ?_
      exact hJ
    · refine J_iconst (v := (0 : Int32)) (pc := 8) dX4_undo_8 (by decide) ?_
      refine J_goto (pc := 9) (tgt := 13) dX4_undo_9 (by decide) ?_
      refine J_topi (y := v1) (by rw [e2, if_neg c3]) ?_
      exact hJ
set_option maxHeartbeats 4000000 in
set_option maxRecDepth 100000 in
theorem k_X4_keep {E : En} (M : Wd) {r : Int32} {M' : Wd} (h : F_X4_keep M = some (r, M')) : Con E mi_X4_keep [.ref 53] M (.inl (some (.int r))) M' := by
  unfold F_X4_keep at h
  refine Con.of (by decide) rfl (Nat.le_of_ble_eq_true rfl) (fun κ => ?_)
  show J κ E mi_X4_keep _ 0 0 [(0, .ref 53)] M 0 []
  refine J_aload_n (pc := 0) dX4_keep_0 rfl 0 rfl ?_
  refine J_iconst (v := (0 : Int32)) (pc := 1) dX4_keep_1 (by decide) ?_
  refine put_53_0 (pc := 2) w_1023 dX4_keep_2 ?_
  refine J_aload_n (pc := 5) dX4_keep_5 rfl 0 rfl ?_
  refine J_LS [(0, .ref 53)] [.ref 53] rfl rfl ?_
  refine get_53_3 (pc := 6) w_1026 dX4_keep_6 ?_
  refine J_iconst (v := (0 : Int32)) (pc := 9) dX4_keep_9 (by decide) ?_
  refine J_aload_n (pc := 10) dX4_keep_10 rfl 0 rfl ?_
  refine get_53_6 (pc := 11) w_1029 dX4_keep_11 ?_
  refine J_iconst (v := (0 : Int32)) (pc := 14) dX4_keep_14 (by decide) ?_
  obtain ⟨M1, hc2, h⟩ := obind_e h
  refine J_callS (g := mi_X4_copyState) (pc := 15) [.ref 55, .int (0 : Int32), .ref 57, .int (0 : Int32)] [] ms_X4_copyState w_1128 (k_X4_copyState_55_57 (0 : Int32) (0 : Int32) _ hc2) rfl rfl ⟨⟨Nat.le_of_ble_eq_true rfl, Nat.le_of_ble_eq_true rfl⟩, Nat.le_of_ble_eq_true rfl, Nat.le_of_ble_eq_true rfl⟩ (Nat.le_of_ble_eq_true rfl) dX4_keep_15 (Jk_0 rfl rfl ?_)
  refine J_aload_n (pc := 18) dX4_keep_18 rfl 0 rfl ?_
  refine J_LS [(0, .ref 53)] [.ref 53] rfl rfl ?_
  refine J_iconst (v := (1 : Int32)) (pc := 19) dX4_keep_19 (by decide) ?_
  refine put_53_7 (pc := 20) w_1030 (Or.inr rfl) dX4_keep_20 ?_
  refine J_aload_n (pc := 23) dX4_keep_23 rfl 0 rfl ?_
  refine get_53_3 (pc := 24) w_1026 dX4_keep_24 ?_
  refine J_iconst (v := (0 : Int32)) (pc := 27) dX4_keep_27 (by decide) ?_
  refine J_iald (c := 55) (N := 82) (pc := 28) ja_55 (Nat.le_of_ble_eq_true rfl) (vpc rfl) dX4_keep_28 ?_
  refine J_topi (x := (upI M1 53 7 (1 : Int32)).1 55 (Int32.toNatClampNeg 0)) (y := (M1.1 55 0)) (Eq.symm (a := (upI M1 53 7 (1 : Int32)).1 55 (Int32.toNatClampNeg 0)) (show (upI M1 53 7 (1 : Int32)).1 55 0 = (M1.1 55 0) from (eI_ne (Nat.ne_of_beq_eq_false rfl) rfl))) ?_
  cases h
  exact J_ireturn dX4_keep_29 rfl rfl rfl rfl rfl
set_option maxHeartbeats 4000000 in
set_option maxRecDepth 100000 in
theorem k_X4_restore {E : En} (M : Wd) {r : Int32} {M' : Wd} (h : F_X4_restore M = some (r, M')) : Con E mi_X4_restore [.ref 53] M (.inl (some (.int r))) M' := by
  unfold F_X4_restore at h
  refine Con.of (by decide) rfl (Nat.le_of_ble_eq_true rfl) (fun κ => ?_)
  show J κ E mi_X4_restore _ 0 0 [(0, .ref 53)] M 0 []
  refine J_aload_n (pc := 0) dX4_restore_0 rfl 0 rfl ?_
  refine J_aload_n (pc := 1) dX4_restore_1 rfl 0 rfl ?_
  refine J_LS [(0, .ref 53)] [.ref 53, .ref 53] rfl rfl ?_
  refine get_53_7 (pc := 2) w_1030 dX4_restore_2 ?_
  obtain ⟨v1, e2, h⟩ := bnd_e h
  have hb4 : isB v1 := by rw [e2]; repeat (first | exact Or.inl rfl | exact Or.inr rfl | assumption | exact okB_b (by assumption) | apply isB_ite)
  refine J_join [(0, .ref 53)] M 13 [.int v1, .ref 53] ?_ (fun hJ => ?_)
  · obtain ⟨v5, M6, hc7, h⟩ := obind2_e h
    refine J_callV (g := mi_X4_refused) (ci := 4) (pc := 13) [.int v1] [] mv_X4_refused w_1120 (k_X4_refused v1 _ hc7) rfl (by decide) rfl rfl rfl ⟨⟨Nat.le_of_ble_eq_true rfl, Nat.le_of_ble_eq_true rfl⟩, Nat.le_of_ble_eq_true rfl, Nat.le_of_ble_eq_true rfl⟩ (Nat.le_of_ble_eq_true rfl) dX4_restore_13 (Jk_v rfl rfl fun hok8 => ?_)
    refine J_if_eq (pc := 16) (tgt := 21) dX4_restore_16 (by decide) (fun c9 => ?_) (fun c9 => ?_)
    · replace h := ifp c9 h
      refine J_aload_n (pc := 21) dX4_restore_21 rfl 0 rfl ?_
      obtain ⟨M10, hc11, h⟩ := obind_e h
      refine J_callV (g := mi_X4_saves) (ci := 4) (pc := 22) [] [] mv_X4_saves w_1124 (k_X4_saves _ hc11) rfl (by decide) rfl rfl rfl ⟨⟨Nat.le_of_ble_eq_true rfl, Nat.le_of_ble_eq_true rfl⟩, Nat.le_of_ble_eq_true rfl, Nat.le_of_ble_eq_true rfl⟩ (Nat.le_of_ble_eq_true rfl) dX4_restore_22 (Jk_0 rfl rfl ?_)
      refine J_aload_n (pc := 25) dX4_restore_25 rfl 0 rfl ?_
      refine J_LS [(0, .ref 53)] [.ref 53] rfl rfl ?_
      refine get_53_6 (pc := 26) w_1029 dX4_restore_26 ?_
      refine J_iconst (v := (0 : Int32)) (pc := 29) dX4_restore_29 (by decide) ?_
      refine J_aload_n (pc := 30) dX4_restore_30 rfl 0 rfl ?_
      refine get_53_3 (pc := 31) w_1026 dX4_restore_31 ?_
      refine J_iconst (v := (0 : Int32)) (pc := 34) dX4_restore_34 (by decide) ?_
      obtain ⟨M12, hc13, h⟩ := obind_e h
      refine J_callS (g := mi_X4_copyState) (pc := 35) [.ref 57, .int (0 : Int32), .ref 55, .int (0 : Int32)] [] ms_X4_copyState w_1128 (k_X4_copyState_57_55 (0 : Int32) (0 : Int32) _ hc13) rfl rfl ⟨⟨Nat.le_of_ble_eq_true rfl, Nat.le_of_ble_eq_true rfl⟩, Nat.le_of_ble_eq_true rfl, Nat.le_of_ble_eq_true rfl⟩ (Nat.le_of_ble_eq_true rfl) dX4_restore_35 (Jk_0 rfl rfl ?_)
      refine J_aload_n (pc := 38) dX4_restore_38 rfl 0 rfl ?_
      refine J_LS [(0, .ref 53)] [.ref 53] rfl rfl ?_
      refine get_53_3 (pc := 39) w_1026 dX4_restore_39 ?_
      refine J_iconst (v := (0 : Int32)) (pc := 42) dX4_restore_42 (by decide) ?_
      refine J_iald (c := 55) (N := 82) (pc := 43) ja_55 (Nat.le_of_ble_eq_true rfl) (vpc rfl) dX4_restore_43 ?_
      refine J_topi (x := M12.1 55 (Int32.toNatClampNeg 0)) (y := (M12.1 55 0)) (Eq.symm (a := M12.1 55 (Int32.toNatClampNeg 0)) (show M12.1 55 0 = (M12.1 55 0) from rfl)) ?_
      cases h
      exact J_ireturn dX4_restore_44 rfl rfl rfl rfl rfl
    · replace h := ifn c9 h
      refine J_iconst (v := (0 : Int32)) (pc := 19) dX4_restore_19 (by decide) ?_
      cases h
      exact J_ireturn dX4_restore_20 rfl rfl rfl rfl rfl
  · refine J_if_eq (pc := 5) (tgt := 12) dX4_restore_5 (by decide) (fun c3 => ?_) (fun c3 => ?_)
    · refine J_iconst (v := (1 : Int32)) (pc := 12) dX4_restore_12 (by decide) ?_
      refine J_topi (y := v1) (by rw [e2, if_pos c3]) ?_
      exact hJ
    · refine J_iconst (v := (0 : Int32)) (pc := 8) dX4_restore_8 (by decide) ?_
      refine J_goto (pc := 9) (tgt := 13) dX4_restore_9 (by decide) ?_
      refine J_topi (y := v1) (by rw [e2, if_neg c3]) ?_
      exact hJ
set_option maxHeartbeats 4000000 in
set_option maxRecDepth 100000 in
theorem k_X4_savedStates {E : En} (M : Wd) {r : Int32} {M' : Wd} (h : F_X4_savedStates M = some (r, M')) : Con E mi_X4_savedStates [.ref 53] M (.inl (some (.int r))) M' := by
  unfold F_X4_savedStates at h
  refine Con.of (by decide) rfl (Nat.le_of_ble_eq_true rfl) (fun κ => ?_)
  show J κ E mi_X4_savedStates _ 0 0 [(0, .ref 53)] M 0 []
  refine J_aload_n (pc := 0) dX4_savedStates_0 rfl 0 rfl ?_
  refine J_iconst (v := (0 : Int32)) (pc := 1) dX4_savedStates_1 (by decide) ?_
  refine put_53_0 (pc := 2) w_1023 dX4_savedStates_2 ?_
  refine J_aload_n (pc := 5) dX4_savedStates_5 rfl 0 rfl ?_
  refine J_LS [(0, .ref 53)] [.ref 53] rfl rfl ?_
  refine get_53_5 (pc := 6) w_1028 dX4_savedStates_6 ?_
  refine J_topi (y := (M.1 53 5)) (Eq.symm (show (upI M 53 0 (0 : Int32)).1 53 5 = (M.1 53 5) from (eI_kn (Nat.ne_of_beq_eq_false rfl) rfl))) ?_
  cases h
  exact J_ireturn dX4_savedStates_9 rfl rfl rfl rfl rfl
set_option maxHeartbeats 4000000 in
set_option maxRecDepth 100000 in
theorem k_X4_told {E : En} (a1 : Int32) (M : Wd) {r : Int32} {M' : Wd} (h : F_X4_told a1 M = some (r, M')) : Con E mi_X4_told [.ref 53, .int a1] M (.inl (some (.int r))) M' := by
  unfold F_X4_told at h
  refine Con.of (by decide) rfl (Nat.le_of_ble_eq_true rfl) (fun κ => ?_)
  show J κ E mi_X4_told _ 0 0 [(0, .ref 53), (1, .int a1)] M 0 []
  refine J_aload_n (pc := 0) dX4_told_0 rfl 0 rfl ?_
  refine J_iconst (v := (0 : Int32)) (pc := 1) dX4_told_1 (by decide) ?_
  refine put_53_0 (pc := 2) w_1023 dX4_told_2 ?_
  refine J_iload_n (pc := 5) dX4_told_5 rfl 1 rfl ?_
  refine J_LS [(0, .ref 53), (1, .int a1)] [.int a1] rfl rfl ?_
  cases h
  exact J_ireturn dX4_told_6 rfl rfl rfl rfl rfl
set_option maxHeartbeats 4000000 in
set_option maxRecDepth 100000 in
theorem k_X4_cars {E : En} (M : Wd) {r : Int32} {M' : Wd} (h : F_X4_cars M = some (r, M')) : Con E mi_X4_cars [.ref 53] M (.inl (some (.int r))) M' := by
  unfold F_X4_cars at h
  refine Con.of (by decide) rfl (Nat.le_of_ble_eq_true rfl) (fun κ => ?_)
  show J κ E mi_X4_cars _ 0 0 [(0, .ref 53)] M 0 []
  refine J_aload_n (pc := 0) dX4_cars_0 rfl 0 rfl ?_
  refine J_aload_n (pc := 1) dX4_cars_1 rfl 0 rfl ?_
  refine J_LS [(0, .ref 53)] [.ref 53, .ref 53] rfl rfl ?_
  refine get_53_3 (pc := 2) w_1026 dX4_cars_2 ?_
  refine J_iconst (v := (0 : Int32)) (pc := 5) dX4_cars_5 (by decide) ?_
  refine J_iald (c := 55) (N := 82) (pc := 6) ja_55 (Nat.le_of_ble_eq_true rfl) (vpc rfl) dX4_cars_6 ?_
  refine J_topi (x := M.1 55 (Int32.toNatClampNeg 0)) (y := (M.1 55 0)) (Eq.symm (a := M.1 55 (Int32.toNatClampNeg 0)) (show M.1 55 0 = (M.1 55 0) from rfl)) ?_
  obtain ⟨v1, M2, hc3, h⟩ := obind2_e h
  refine J_callV (g := mi_X4_told) (ci := 4) (pc := 7) [.int (M.1 55 0)] [] mv_X4_told w_1349 (k_X4_told (M.1 55 0) _ hc3) rfl (by decide) rfl rfl rfl ⟨⟨Nat.le_of_ble_eq_true rfl, Nat.le_of_ble_eq_true rfl⟩, Nat.le_of_ble_eq_true rfl, Nat.le_of_ble_eq_true rfl⟩ (Nat.le_of_ble_eq_true rfl) dX4_cars_7 (Jk_v rfl rfl fun hok4 => ?_)
  cases h
  exact J_ireturn dX4_cars_10 rfl rfl rfl rfl rfl
set_option maxHeartbeats 4000000 in
set_option maxRecDepth 100000 in
theorem k_X4_walls {E : En} (M : Wd) {r : Int32} {M' : Wd} (h : F_X4_walls M = some (r, M')) : Con E mi_X4_walls [.ref 53] M (.inl (some (.int r))) M' := by
  unfold F_X4_walls at h
  refine Con.of (by decide) rfl (Nat.le_of_ble_eq_true rfl) (fun κ => ?_)
  show J κ E mi_X4_walls _ 0 0 [(0, .ref 53)] M 0 []
  refine J_aload_n (pc := 0) dX4_walls_0 rfl 0 rfl ?_
  refine J_aload_n (pc := 1) dX4_walls_1 rfl 0 rfl ?_
  refine J_LS [(0, .ref 53)] [.ref 53, .ref 53] rfl rfl ?_
  refine get_53_3 (pc := 2) w_1026 dX4_walls_2 ?_
  refine J_bipush (v := (19 : Int32)) (pc := 5) dX4_walls_5 (by decide) ?_
  refine J_iald (c := 55) (N := 82) (pc := 7) ja_55 (Nat.le_of_ble_eq_true rfl) (vpc rfl) dX4_walls_7 ?_
  refine J_topi (x := M.1 55 (Int32.toNatClampNeg 19)) (y := (M.1 55 19)) (Eq.symm (a := M.1 55 (Int32.toNatClampNeg 19)) (show M.1 55 19 = (M.1 55 19) from rfl)) ?_
  obtain ⟨v1, hc2, h⟩ := obind_e h
  refine J_callS (g := mi_X4_bits) (pc := 8) [.int (M.1 55 19)] [.ref 53] ms_X4_bits w_1155 (k_X4_bits (M.1 55 19) _ hc2) rfl rfl ⟨⟨Nat.le_of_ble_eq_true rfl, Nat.le_of_ble_eq_true rfl⟩, Nat.le_of_ble_eq_true rfl, Nat.le_of_ble_eq_true rfl⟩ (Nat.le_of_ble_eq_true rfl) dX4_walls_8 (Jk_v rfl rfl fun hok3 => ?_)
  obtain ⟨v4, M5, hc6, h⟩ := obind2_e h
  refine J_callV (g := mi_X4_told) (ci := 4) (pc := 11) [.int v1] [] mv_X4_told w_1349 (k_X4_told v1 _ hc6) rfl (by decide) rfl rfl rfl ⟨⟨Nat.le_of_ble_eq_true rfl, Nat.le_of_ble_eq_true rfl⟩, Nat.le_of_ble_eq_true rfl, Nat.le_of_ble_eq_true rfl⟩ (Nat.le_of_ble_eq_true rfl) dX4_walls_11 (Jk_v rfl rfl fun hok7 => ?_)
  cases h
  exact J_ireturn dX4_walls_14 rfl rfl rfl rfl rfl
set_option maxHeartbeats 4000000 in
set_option maxRecDepth 100000 in
theorem k_X4_noCar {E : En} (a1 : Int32) (M : Wd) {r : Int32} {M' : Wd} (h : F_X4_noCar a1 M = some (r, M')) : Con E mi_X4_noCar [.ref 53, .int a1] M (.inl (some (.int r))) M' := by
  unfold F_X4_noCar at h
  refine Con.of (by decide) rfl (Nat.le_of_ble_eq_true rfl) (fun κ => ?_)
  show J κ E mi_X4_noCar _ 0 0 [(0, .ref 53), (1, .int a1)] M 0 []
  refine J_aload_n (pc := 0) dX4_noCar_0 rfl 0 rfl ?_
  refine J_aload_n (pc := 1) dX4_noCar_1 rfl 0 rfl ?_
  refine J_LS [(0, .ref 53), (1, .int a1)] [.ref 53, .ref 53] rfl rfl ?_
  refine J_iload_n (pc := 2) dX4_noCar_2 rfl 1 rfl ?_
  refine J_callV (g := mi_X4_isCar) (ci := 4) (pc := 3) [.int a1] [.ref 53] mv_X4_isCar w_1166 (k_X4_isCar a1 _) rfl (by decide) rfl rfl rfl ⟨⟨Nat.le_of_ble_eq_true rfl, Nat.le_of_ble_eq_true rfl⟩, Nat.le_of_ble_eq_true rfl, Nat.le_of_ble_eq_true rfl⟩ (Nat.le_of_ble_eq_true rfl) dX4_noCar_3 (Jk_v rfl rfl fun hok1 => ?_)
  obtain ⟨v2, e3, h⟩ := bnd_e h
  have hb5 : isB v2 := by rw [e3]; repeat (first | exact Or.inl rfl | exact Or.inr rfl | assumption | exact okB_b (by assumption) | apply isB_ite)
  refine J_join [] M 14 [.int v2, .ref 53] ?_ (fun hJ => ?_)
  · obtain ⟨v6, M7, hc8, h⟩ := obind2_e h
    refine J_callV (g := mi_X4_refused) (ci := 4) (pc := 14) [.int v2] [] mv_X4_refused w_1120 (k_X4_refused v2 _ hc8) rfl (by decide) rfl rfl rfl ⟨⟨Nat.le_of_ble_eq_true rfl, Nat.le_of_ble_eq_true rfl⟩, Nat.le_of_ble_eq_true rfl, Nat.le_of_ble_eq_true rfl⟩ (Nat.le_of_ble_eq_true rfl) dX4_noCar_14 (Jk_v rfl rfl fun hok9 => ?_)
    cases h
    exact J_zreturn dX4_noCar_17 rfl (okB_b hok9) rfl rfl rfl rfl
  · refine J_if_eq (pc := 6) (tgt := 13) dX4_noCar_6 (by decide) (fun c4 => ?_) (fun c4 => ?_)
    · refine J_iconst (v := (1 : Int32)) (pc := 13) dX4_noCar_13 (by decide) ?_
      refine J_sub [] rfl ?_
      refine J_topi (y := v2) (by rw [e3, if_pos c4]) ?_
      exact hJ
    · refine J_iconst (v := (0 : Int32)) (pc := 9) dX4_noCar_9 (by decide) ?_
      refine J_goto (pc := 10) (tgt := 14) dX4_noCar_10 (by decide) ?_
      refine J_sub [] rfl ?_
      refine J_topi (y := v2) (by rw [e3, if_neg c4]) ?_
      exact hJ
set_option maxHeartbeats 4000000 in
set_option maxRecDepth 100000 in
theorem k_X4_laneOf {E : En} (a1 : Int32) (M : Wd) {r : Int32} {M' : Wd} (h : F_X4_laneOf a1 M = some (r, M')) : Con E mi_X4_laneOf [.ref 53, .int a1] M (.inl (some (.int r))) M' := by
  unfold F_X4_laneOf at h
  refine Con.of (by decide) rfl (Nat.le_of_ble_eq_true rfl) (fun κ => ?_)
  show J κ E mi_X4_laneOf _ 0 0 [(0, .ref 53), (1, .int a1)] M 0 []
  refine J_aload_n (pc := 0) dX4_laneOf_0 rfl 0 rfl ?_
  refine J_iload_n (pc := 1) dX4_laneOf_1 rfl 1 rfl ?_
  refine J_LS [(0, .ref 53), (1, .int a1)] [.int a1, .ref 53] rfl rfl ?_
  obtain ⟨v1, M2, hc3, h⟩ := obind2_e h
  refine J_callV (g := mi_X4_noCar) (ci := 4) (pc := 2) [.int a1] [] mv_X4_noCar w_1361 (k_X4_noCar a1 _ hc3) rfl (by decide) rfl rfl rfl ⟨⟨Nat.le_of_ble_eq_true rfl, Nat.le_of_ble_eq_true rfl⟩, Nat.le_of_ble_eq_true rfl, Nat.le_of_ble_eq_true rfl⟩ (Nat.le_of_ble_eq_true rfl) dX4_laneOf_2 (Jk_v rfl rfl fun hok4 => ?_)
  refine J_if_eq (pc := 5) (tgt := 12) dX4_laneOf_5 (by decide) (fun c5 => ?_) (fun c5 => ?_)
  · replace h := ifp c5 h
    refine J_aload_n (pc := 12) dX4_laneOf_12 rfl 0 rfl ?_
    refine get_53_3 (pc := 13) w_1026 dX4_laneOf_13 ?_
    refine J_iconst (v := (1 : Int32)) (pc := 16) dX4_laneOf_16 (by decide) ?_
    refine J_iload_n (pc := 17) dX4_laneOf_17 rfl 1 rfl ?_
    refine J_LS [(0, .ref 53), (1, .int a1)] [.int a1, .int (1 : Int32), .ref 55] rfl rfl ?_
    refine J_iadd (pc := 18) dX4_laneOf_18 ?_
    obtain ⟨v6, e7, hk8, h⟩ := ldi_e h
    refine J_iald (c := 55) (N := 82) (pc := 19) ja_55 (Nat.le_of_ble_eq_true rfl) hk8 dX4_laneOf_19 ?_
    refine J_topi e7 ?_
    cases h
    exact J_ireturn dX4_laneOf_20 rfl rfl rfl rfl rfl
  · replace h := ifn c5 h
    refine J_iconst (v := (0 : Int32)) (pc := 8) dX4_laneOf_8 (by decide) ?_
    refine J_goto (pc := 9) (tgt := 20) dX4_laneOf_9 (by decide) ?_
    cases h
    exact J_ireturn dX4_laneOf_20 rfl rfl rfl rfl rfl
set_option maxHeartbeats 4000000 in
set_option maxRecDepth 100000 in
theorem k_X4_placeOf {E : En} (a1 : Int32) (M : Wd) {r : Int32} {M' : Wd} (h : F_X4_placeOf a1 M = some (r, M')) : Con E mi_X4_placeOf [.ref 53, .int a1] M (.inl (some (.int r))) M' := by
  unfold F_X4_placeOf at h
  refine Con.of (by decide) rfl (Nat.le_of_ble_eq_true rfl) (fun κ => ?_)
  show J κ E mi_X4_placeOf _ 0 0 [(0, .ref 53), (1, .int a1)] M 0 []
  refine J_aload_n (pc := 0) dX4_placeOf_0 rfl 0 rfl ?_
  refine J_iload_n (pc := 1) dX4_placeOf_1 rfl 1 rfl ?_
  refine J_LS [(0, .ref 53), (1, .int a1)] [.int a1, .ref 53] rfl rfl ?_
  obtain ⟨v1, M2, hc3, h⟩ := obind2_e h
  refine J_callV (g := mi_X4_noCar) (ci := 4) (pc := 2) [.int a1] [] mv_X4_noCar w_1361 (k_X4_noCar a1 _ hc3) rfl (by decide) rfl rfl rfl ⟨⟨Nat.le_of_ble_eq_true rfl, Nat.le_of_ble_eq_true rfl⟩, Nat.le_of_ble_eq_true rfl, Nat.le_of_ble_eq_true rfl⟩ (Nat.le_of_ble_eq_true rfl) dX4_placeOf_2 (Jk_v rfl rfl fun hok4 => ?_)
  refine J_if_eq (pc := 5) (tgt := 12) dX4_placeOf_5 (by decide) (fun c5 => ?_) (fun c5 => ?_)
  · replace h := ifp c5 h
    refine J_aload_n (pc := 12) dX4_placeOf_12 rfl 0 rfl ?_
    refine get_53_3 (pc := 13) w_1026 dX4_placeOf_13 ?_
    refine J_bipush (v := (7 : Int32)) (pc := 16) dX4_placeOf_16 (by decide) ?_
    refine J_iload_n (pc := 18) dX4_placeOf_18 rfl 1 rfl ?_
    refine J_LS [(0, .ref 53), (1, .int a1)] [.int a1, .int (7 : Int32), .ref 55] rfl rfl ?_
    refine J_iadd (pc := 19) dX4_placeOf_19 ?_
    obtain ⟨v6, e7, hk8, h⟩ := ldi_e h
    refine J_iald (c := 55) (N := 82) (pc := 20) ja_55 (Nat.le_of_ble_eq_true rfl) hk8 dX4_placeOf_20 ?_
    refine J_topi e7 ?_
    cases h
    exact J_ireturn dX4_placeOf_21 rfl rfl rfl rfl rfl
  · replace h := ifn c5 h
    refine J_iconst (v := (0 : Int32)) (pc := 8) dX4_placeOf_8 (by decide) ?_
    refine J_goto (pc := 9) (tgt := 21) dX4_placeOf_9 (by decide) ?_
    cases h
    exact J_ireturn dX4_placeOf_21 rfl rfl rfl rfl rfl
set_option maxHeartbeats 4000000 in
set_option maxRecDepth 100000 in
theorem k_X4_lengthOf {E : En} (a1 : Int32) (M : Wd) {r : Int32} {M' : Wd} (h : F_X4_lengthOf a1 M = some (r, M')) : Con E mi_X4_lengthOf [.ref 53, .int a1] M (.inl (some (.int r))) M' := by
  unfold F_X4_lengthOf at h
  refine Con.of (by decide) rfl (Nat.le_of_ble_eq_true rfl) (fun κ => ?_)
  show J κ E mi_X4_lengthOf _ 0 0 [(0, .ref 53), (1, .int a1)] M 0 []
  refine J_aload_n (pc := 0) dX4_lengthOf_0 rfl 0 rfl ?_
  refine J_iload_n (pc := 1) dX4_lengthOf_1 rfl 1 rfl ?_
  refine J_LS [(0, .ref 53), (1, .int a1)] [.int a1, .ref 53] rfl rfl ?_
  obtain ⟨v1, M2, hc3, h⟩ := obind2_e h
  refine J_callV (g := mi_X4_noCar) (ci := 4) (pc := 2) [.int a1] [] mv_X4_noCar w_1361 (k_X4_noCar a1 _ hc3) rfl (by decide) rfl rfl rfl ⟨⟨Nat.le_of_ble_eq_true rfl, Nat.le_of_ble_eq_true rfl⟩, Nat.le_of_ble_eq_true rfl, Nat.le_of_ble_eq_true rfl⟩ (Nat.le_of_ble_eq_true rfl) dX4_lengthOf_2 (Jk_v rfl rfl fun hok4 => ?_)
  refine J_if_eq (pc := 5) (tgt := 12) dX4_lengthOf_5 (by decide) (fun c5 => ?_) (fun c5 => ?_)
  · replace h := ifp c5 h
    refine J_aload_n (pc := 12) dX4_lengthOf_12 rfl 0 rfl ?_
    refine get_53_3 (pc := 13) w_1026 dX4_lengthOf_13 ?_
    refine J_bipush (v := (13 : Int32)) (pc := 16) dX4_lengthOf_16 (by decide) ?_
    refine J_iload_n (pc := 18) dX4_lengthOf_18 rfl 1 rfl ?_
    refine J_LS [(0, .ref 53), (1, .int a1)] [.int a1, .int (13 : Int32), .ref 55] rfl rfl ?_
    refine J_iadd (pc := 19) dX4_lengthOf_19 ?_
    obtain ⟨v6, e7, hk8, h⟩ := ldi_e h
    refine J_iald (c := 55) (N := 82) (pc := 20) ja_55 (Nat.le_of_ble_eq_true rfl) hk8 dX4_lengthOf_20 ?_
    refine J_topi e7 ?_
    cases h
    exact J_ireturn dX4_lengthOf_21 rfl rfl rfl rfl rfl
  · replace h := ifn c5 h
    refine J_iconst (v := (0 : Int32)) (pc := 8) dX4_lengthOf_8 (by decide) ?_
    refine J_goto (pc := 9) (tgt := 21) dX4_lengthOf_9 (by decide) ?_
    cases h
    exact J_ireturn dX4_lengthOf_21 rfl rfl rfl rfl rfl
set_option maxHeartbeats 4000000 in
set_option maxRecDepth 100000 in
theorem kL_X4_carAt_L2 {κ : Kx} {E : En} {Q : State → Prop} {ρ : Type} {r : ρ} (a1 : Int32) (M : Wd) (K25 : Int32 → Option ρ) (K33 : Option ρ) (hK25 : ∀ (x2 : Int32), K25 x2 = some r → J κ E mi_X4_carAt Q 0 0 [(2, .int x2)] M 25 []) (hK33 : K33 = some r → J κ E mi_X4_carAt Q 0 0 [] M 33 []) : ∀ (m : Nat) (x2 : Int32), F_X4_carAt_L2 a1 M K25 K33 m x2 = some r → J κ E mi_X4_carAt Q 0 0 [(0, .ref 53), (1, .int a1), (2, .int x2)] M 2 [] := by
  intro m
  induction m with
  | zero => intro x2 h; exact (nomatch (show (none : Option ρ) = some r from h))
  | succ m ih =>
    intro x2 h
    unfold F_X4_carAt_L2 at h
    refine J_iload_n (pc := 2) dX4_carAt_2 rfl 2 rfl ?_
    refine J_aload_n (pc := 3) dX4_carAt_3 rfl 0 rfl ?_
    refine J_LS [(0, .ref 53), (1, .int a1), (2, .int x2)] [.ref 53, .int x2] rfl rfl ?_
    refine get_53_3 (pc := 4) w_1026 dX4_carAt_4 ?_
    refine J_iconst (v := (0 : Int32)) (pc := 7) dX4_carAt_7 (by decide) ?_
    refine J_iald (c := 55) (N := 82) (pc := 8) ja_55 (Nat.le_of_ble_eq_true rfl) (vpc rfl) dX4_carAt_8 ?_
    refine J_topi (x := M.1 55 (Int32.toNatClampNeg 0)) (y := (M.1 55 0)) (Eq.symm (a := M.1 55 (Int32.toNatClampNeg 0)) (show M.1 55 0 = (M.1 55 0) from rfl)) ?_
    refine J_icmp_ge (pc := 9) (tgt := 33) dX4_carAt_9 (by decide) (fun c1 => ?_) (fun c1 => ?_)
    · replace h := ifp c1 h
      refine J_sub [] rfl ?_
      exact hK33 h
    · replace h := ifn c1 h
      refine J_aload_n (pc := 12) dX4_carAt_12 rfl 0 rfl ?_
      refine J_iload_n (pc := 13) dX4_carAt_13 rfl 2 rfl ?_
      refine J_LS [(0, .ref 53), (1, .int a1), (2, .int x2)] [.int x2, .ref 53] rfl rfl ?_
      obtain ⟨v2, hc3, h⟩ := obind_e h
      refine J_callV (g := mi_X4_cellsOf) (ci := 4) (pc := 14) [.int x2] [] mv_X4_cellsOf w_1116 (k_X4_cellsOf x2 _ hc3) rfl (by decide) rfl rfl rfl ⟨⟨Nat.le_of_ble_eq_true rfl, Nat.le_of_ble_eq_true rfl⟩, Nat.le_of_ble_eq_true rfl, Nat.le_of_ble_eq_true rfl⟩ (Nat.le_of_ble_eq_true rfl) dX4_carAt_14 (Jk_v rfl rfl fun hok4 => ?_)
      refine J_iload_n (pc := 17) dX4_carAt_17 rfl 1 rfl ?_
      refine J_ishr (pc := 18) dX4_carAt_18 ?_
      refine J_iconst (v := (1 : Int32)) (pc := 19) dX4_carAt_19 (by decide) ?_
      refine J_iand (pc := 20) dX4_carAt_20 ?_
      refine J_iconst (v := (1 : Int32)) (pc := 21) dX4_carAt_21 (by decide) ?_
      refine J_icmp_ne (pc := 22) (tgt := 27) dX4_carAt_22 (by decide) (fun c5 => ?_) (fun c5 => ?_)
      · replace h := ifn c5 h
        obtain ⟨v6, e7, h⟩ := bnd_e h
        refine J_iinc (v := v6) (pc := 27) dX4_carAt_27 2 rfl (by rw [e7]; rfl) (Nat.le_of_ble_eq_true rfl) [1, 2, 0] rfl ?_
        refine J_goto (pc := 30) (tgt := 2) dX4_carAt_30 (by decide) ?_
        exact ih _ h
      · replace h := ifp c5 h
        refine J_sub [2] rfl ?_
        exact hK25 _ h
set_option maxHeartbeats 4000000 in
set_option maxRecDepth 100000 in
theorem k_X4_carAt {E : En} (a1 : Int32) (M : Wd) {r : Int32} (h : F_X4_carAt a1 M = some r) : Con E mi_X4_carAt [.ref 53, .int a1] M (.inl (some (.int r))) M := by
  unfold F_X4_carAt at h
  refine Con.of (by decide) rfl (Nat.le_of_ble_eq_true rfl) (fun κ => ?_)
  show J κ E mi_X4_carAt _ 0 0 [(0, .ref 53), (1, .int a1)] M 0 []
  refine J_iconst (v := (0 : Int32)) (pc := 0) dX4_carAt_0 (by decide) ?_
  refine J_istore_n (pc := 1) dX4_carAt_1 rfl (Nat.le_of_ble_eq_true rfl) [1, 2, 0] rfl ?_
  refine kL_X4_carAt_L2 _ _ _ _ (fun v8 h => ?_) (fun h => ?_) fuelN _ h
  · refine J_iload_n (pc := 25) dX4_carAt_25 rfl 0 rfl ?_
    refine J_LS [(2, .int v8)] [.int v8] rfl rfl ?_
    cases h
    exact J_ireturn dX4_carAt_26 rfl rfl rfl rfl rfl
  · refine J_iconst (v := (-1 : Int32)) (pc := 33) dX4_carAt_33 (by decide) ?_
    cases h
    exact J_ireturn dX4_carAt_34 rfl rfl rfl rfl rfl
set_option maxHeartbeats 4000000 in
set_option maxRecDepth 100000 in
theorem k_X4_carOn {E : En} (a1 : Int32) (M : Wd) {r : Int32} {M' : Wd} (h : F_X4_carOn a1 M = some (r, M')) : Con E mi_X4_carOn [.ref 53, .int a1] M (.inl (some (.int r))) M' := by
  unfold F_X4_carOn at h
  refine Con.of (by decide) rfl (Nat.le_of_ble_eq_true rfl) (fun κ => ?_)
  show J κ E mi_X4_carOn _ 0 0 [(0, .ref 53), (1, .int a1)] M 0 []
  refine J_aload_n (pc := 0) dX4_carOn_0 rfl 0 rfl ?_
  refine J_iload_n (pc := 1) dX4_carOn_1 rfl 1 rfl ?_
  refine J_LS [(0, .ref 53), (1, .int a1)] [.int a1, .ref 53] rfl rfl ?_
  refine J_callS (g := mi_X4_isCell) (pc := 2) [.int a1] [.ref 53] ms_X4_isCell w_1143 (k_X4_isCell a1 _) rfl rfl ⟨⟨Nat.le_of_ble_eq_true rfl, Nat.le_of_ble_eq_true rfl⟩, Nat.le_of_ble_eq_true rfl, Nat.le_of_ble_eq_true rfl⟩ (Nat.le_of_ble_eq_true rfl) dX4_carOn_2 (Jk_v rfl rfl fun hok1 => ?_)
  obtain ⟨v2, e3, h⟩ := bnd_e h
  have hb5 : isB v2 := by rw [e3]; repeat (first | exact Or.inl rfl | exact Or.inr rfl | assumption | exact okB_b (by assumption) | apply isB_ite)
  refine J_join [(0, .ref 53), (1, .int a1)] M 13 [.int v2, .ref 53] ?_ (fun hJ => ?_)
  · obtain ⟨v6, M7, hc8, h⟩ := obind2_e h
    refine J_callV (g := mi_X4_refused) (ci := 4) (pc := 13) [.int v2] [] mv_X4_refused w_1120 (k_X4_refused v2 _ hc8) rfl (by decide) rfl rfl rfl ⟨⟨Nat.le_of_ble_eq_true rfl, Nat.le_of_ble_eq_true rfl⟩, Nat.le_of_ble_eq_true rfl, Nat.le_of_ble_eq_true rfl⟩ (Nat.le_of_ble_eq_true rfl) dX4_carOn_13 (Jk_v rfl rfl fun hok9 => ?_)
    refine J_if_eq (pc := 16) (tgt := 23) dX4_carOn_16 (by decide) (fun c10 => ?_) (fun c10 => ?_)
    · replace h := ifp c10 h
      refine J_aload_n (pc := 23) dX4_carOn_23 rfl 0 rfl ?_
      refine J_iload_n (pc := 24) dX4_carOn_24 rfl 1 rfl ?_
      refine J_LS [(0, .ref 53), (1, .int a1)] [.int a1, .ref 53] rfl rfl ?_
      obtain ⟨v11, hc12, h⟩ := obind_e h
      refine J_callV (g := mi_X4_carAt) (ci := 4) (pc := 25) [.int a1] [] mv_X4_carAt w_1377 (k_X4_carAt a1 _ hc12) rfl (by decide) rfl rfl rfl ⟨⟨Nat.le_of_ble_eq_true rfl, Nat.le_of_ble_eq_true rfl⟩, Nat.le_of_ble_eq_true rfl, Nat.le_of_ble_eq_true rfl⟩ (Nat.le_of_ble_eq_true rfl) dX4_carOn_25 (Jk_v rfl rfl fun hok13 => ?_)
      cases h
      exact J_ireturn dX4_carOn_28 rfl rfl rfl rfl rfl
    · replace h := ifn c10 h
      refine J_iconst (v := (0 : Int32)) (pc := 19) dX4_carOn_19 (by decide) ?_
      refine J_goto (pc := 20) (tgt := 28) dX4_carOn_20 (by decide) ?_
      cases h
      exact J_ireturn dX4_carOn_28 rfl rfl rfl rfl rfl
  · refine J_if_eq (pc := 5) (tgt := 12) dX4_carOn_5 (by decide) (fun c4 => ?_) (fun c4 => ?_)
    · refine J_iconst (v := (1 : Int32)) (pc := 12) dX4_carOn_12 (by decide) ?_
      refine J_topi (y := v2) (by rw [e3, if_pos c4]) ?_
      exact hJ
    · refine J_iconst (v := (0 : Int32)) (pc := 8) dX4_carOn_8 (by decide) ?_
      refine J_goto (pc := 9) (tgt := 13) dX4_carOn_9 (by decide) ?_
      refine J_topi (y := v2) (by rw [e3, if_neg c4]) ?_
      exact hJ
set_option maxHeartbeats 4000000 in
set_option maxRecDepth 100000 in
theorem k_X4_isWall {E : En} (a1 : Int32) (M : Wd) {r : Int32} {M' : Wd} (h : F_X4_isWall a1 M = some (r, M')) : Con E mi_X4_isWall [.ref 53, .int a1] M (.inl (some (.int r))) M' := by
  unfold F_X4_isWall at h
  refine Con.of (by decide) rfl (Nat.le_of_ble_eq_true rfl) (fun κ => ?_)
  show J κ E mi_X4_isWall _ 0 0 [(0, .ref 53), (1, .int a1)] M 0 []
  refine J_aload_n (pc := 0) dX4_isWall_0 rfl 0 rfl ?_
  refine J_iload_n (pc := 1) dX4_isWall_1 rfl 1 rfl ?_
  refine J_LS [(0, .ref 53), (1, .int a1)] [.int a1, .ref 53] rfl rfl ?_
  refine J_callS (g := mi_X4_isCell) (pc := 2) [.int a1] [.ref 53] ms_X4_isCell w_1143 (k_X4_isCell a1 _) rfl rfl ⟨⟨Nat.le_of_ble_eq_true rfl, Nat.le_of_ble_eq_true rfl⟩, Nat.le_of_ble_eq_true rfl, Nat.le_of_ble_eq_true rfl⟩ (Nat.le_of_ble_eq_true rfl) dX4_isWall_2 (Jk_v rfl rfl fun hok1 => ?_)
  obtain ⟨v2, e3, h⟩ := bnd_e h
  have hb5 : isB v2 := by rw [e3]; repeat (first | exact Or.inl rfl | exact Or.inr rfl | assumption | exact okB_b (by assumption) | apply isB_ite)
  refine J_join [(0, .ref 53), (1, .int a1)] M 13 [.int v2, .ref 53] ?_ (fun hJ => ?_)
  · obtain ⟨v6, M7, hc8, h⟩ := obind2_e h
    refine J_callV (g := mi_X4_refused) (ci := 4) (pc := 13) [.int v2] [] mv_X4_refused w_1120 (k_X4_refused v2 _ hc8) rfl (by decide) rfl rfl rfl ⟨⟨Nat.le_of_ble_eq_true rfl, Nat.le_of_ble_eq_true rfl⟩, Nat.le_of_ble_eq_true rfl, Nat.le_of_ble_eq_true rfl⟩ (Nat.le_of_ble_eq_true rfl) dX4_isWall_13 (Jk_v rfl rfl fun hok9 => ?_)
    refine J_if_ne (pc := 16) (tgt := 31) dX4_isWall_16 (by decide) (fun c10 => ?_) (fun c10 => ?_)
    · replace h := ifn c10 h
      refine J_iconst (v := (0 : Int32)) (pc := 31) dX4_isWall_31 (by decide) ?_
      cases h
      exact J_zreturn dX4_isWall_32 rfl (Or.inl rfl) rfl rfl rfl rfl
    · replace h := ifp c10 h
      refine J_aload_n (pc := 19) dX4_isWall_19 rfl 0 rfl ?_
      refine J_iload_n (pc := 20) dX4_isWall_20 rfl 1 rfl ?_
      refine J_LS [(0, .ref 53), (1, .int a1)] [.int a1, .ref 53] rfl rfl ?_
      refine J_callV (g := mi_X4_hasWall) (ci := 4) (pc := 21) [.int a1] [] mv_X4_hasWall w_1151 (k_X4_hasWall a1 _) rfl (by decide) rfl rfl rfl ⟨⟨Nat.le_of_ble_eq_true rfl, Nat.le_of_ble_eq_true rfl⟩, Nat.le_of_ble_eq_true rfl, Nat.le_of_ble_eq_true rfl⟩ (Nat.le_of_ble_eq_true rfl) dX4_isWall_21 (Jk_v rfl rfl fun hok11 => ?_)
      refine J_if_eq (pc := 24) (tgt := 31) dX4_isWall_24 (by decide) (fun c12 => ?_) (fun c12 => ?_)
      · replace h := ifp c12 h
        refine J_iconst (v := (0 : Int32)) (pc := 31) dX4_isWall_31 (by decide) ?_
        cases h
        exact J_zreturn dX4_isWall_32 rfl (Or.inl rfl) rfl rfl rfl rfl
      · replace h := ifn c12 h
        refine J_iconst (v := (1 : Int32)) (pc := 27) dX4_isWall_27 (by decide) ?_
        refine J_goto (pc := 28) (tgt := 32) dX4_isWall_28 (by decide) ?_
        cases h
        exact J_zreturn dX4_isWall_32 rfl (Or.inr rfl) rfl rfl rfl rfl
  · refine J_if_eq (pc := 5) (tgt := 12) dX4_isWall_5 (by decide) (fun c4 => ?_) (fun c4 => ?_)
    · refine J_iconst (v := (1 : Int32)) (pc := 12) dX4_isWall_12 (by decide) ?_
      refine J_topi (y := v2) (by rw [e3, if_pos c4]) ?_
      exact hJ
    · refine J_iconst (v := (0 : Int32)) (pc := 8) dX4_isWall_8 (by decide) ?_
      refine J_goto (pc := 9) (tgt := 13) dX4_isWall_9 (by decide) ?_
      refine J_topi (y := v2) (by rw [e3, if_neg c4]) ?_
      exact hJ

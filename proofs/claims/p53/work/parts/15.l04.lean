/-! ===== walks of the law's helpers, 3 ===== -/
set_option maxHeartbeats 4000000 in
set_option maxRecDepth 100000 in
theorem kL_L_holds_L98 {κ : Kx} {E : En} {Q : State → Prop} {ρ : Type} {r : ρ} (a1 : Int32) (a2 : Int32) (a3 : Int32) (a4 : Int32) (a5 : Int32) (a6 : Int32) (a7 : Int32) (a8 : Int32) (a9 : Int32) (K162 : Int32 → Wd → Option ρ) (hK162 : ∀ (x10 : Int32) (M : Wd), K162 x10 M = some r → J κ E mi_L_holds Q 0 0 [(0, .ref 0), (1, .int a1), (2, .int a2), (3, .int a3), (4, .int a4), (5, .int a5), (6, .int a6), (7, .int a7), (8, .int a8), (9, .int a9), (10, .int x10)] M 162 []) : ∀ (m : Nat) (x10 : Int32) (x11 : Int32) (M : Wd), F_L_holds_L98 a1 a2 a3 a4 a5 a6 a7 a8 a9 K162 m x10 x11 M = some r → J κ E mi_L_holds Q 0 0 [(0, .ref 0), (1, .int a1), (2, .int a2), (3, .int a3), (4, .int a4), (5, .int a5), (6, .int a6), (7, .int a7), (8, .int a8), (9, .int a9), (10, .int x10), (11, .int x11)] M 98 [] := by
  intro m
  induction m with
  | zero => intro x10 x11 M h; exact (nomatch (show (none : Option ρ) = some r from h))
  | succ m ih =>
    intro x10 x11 M h
    unfold F_L_holds_L98 at h
    refine J_iload (pc := 98) dL_holds_98 11 rfl ?_
    refine J_aload_n (pc := 100) dL_holds_100 rfl 0 rfl ?_
    refine J_callV (g := mi_X3_logged) (ci := 3) (pc := 101) [] [.int x11] mv_X3_logged w_885 (k_X3_logged  _) rfl (by decide) rfl rfl rfl ⟨⟨Nat.le_of_ble_eq_true rfl, Nat.le_of_ble_eq_true rfl⟩, Nat.le_of_ble_eq_true rfl, Nat.le_of_ble_eq_true rfl⟩ (Nat.le_of_ble_eq_true rfl) dL_holds_101 (Jk_v rfl rfl fun hok26 => ?_)
    refine J_icmp_ge (pc := 104) (tgt := 162) dL_holds_104 (by decide) (fun c27 => ?_) (fun c27 => ?_)
    · replace h := ifp c27 h
      refine J_sub [0, 1, 2, 3, 4, 5, 6, 7, 8, 9, 10] rfl ?_
      exact hK162 _ _ h
    · replace h := ifn c27 h
      refine J_aload_n (pc := 107) dL_holds_107 rfl 0 rfl ?_
      refine J_bipush (v := (15 : Int32)) (pc := 108) dL_holds_108 (by decide) ?_
      refine J_iload (pc := 110) dL_holds_110 11 rfl ?_
      refine J_iconst (v := (0 : Int32)) (pc := 112) dL_holds_112 (by decide) ?_
      refine J_iconst (v := (0 : Int32)) (pc := 113) dL_holds_113 (by decide) ?_
      obtain ⟨v28, M29, hc30, h⟩ := obind2_e h
      refine J_callS (g := mi_L_call_n) (pc := 114) [.ref 0, .int (15 : Int32), .int x11, .int (0 : Int32), .int (0 : Int32)] [] ms_L_call_n w_431 (k_L_call_n  (15 : Int32) x11 (0 : Int32) (0 : Int32) _ hc30) rfl rfl ⟨⟨Nat.le_of_ble_eq_true rfl, Nat.le_of_ble_eq_true rfl⟩, Nat.le_of_ble_eq_true rfl, Nat.le_of_ble_eq_true rfl⟩ (Nat.le_of_ble_eq_true rfl) dL_holds_114 (Jk_v rfl rfl fun hok31 => ?_)
      refine J_istore (pc := 117) dL_holds_117 (Nat.le_of_ble_eq_true rfl) [1, 2, 3, 4, 5, 6, 7, 8, 9, 10, 11, 12, 0] rfl ?_
      refine J_iload (pc := 119) dL_holds_119 10 rfl ?_
      refine J_aload_n (pc := 121) dL_holds_121 rfl 0 rfl ?_
      refine J_bipush (v := (14 : Int32)) (pc := 122) dL_holds_122 (by decide) ?_
      refine J_iload (pc := 124) dL_holds_124 11 rfl ?_
      refine J_iconst (v := (0 : Int32)) (pc := 126) dL_holds_126 (by decide) ?_
      refine J_iconst (v := (0 : Int32)) (pc := 127) dL_holds_127 (by decide) ?_
      obtain ⟨v32, M33, hc34, h⟩ := obind2_e h
      refine J_callS (g := mi_L_call_n) (pc := 128) [.ref 0, .int (14 : Int32), .int x11, .int (0 : Int32), .int (0 : Int32)] [.int x10] ms_L_call_n w_431 (k_L_call_n  (14 : Int32) x11 (0 : Int32) (0 : Int32) _ hc34) rfl rfl ⟨⟨Nat.le_of_ble_eq_true rfl, Nat.le_of_ble_eq_true rfl⟩, Nat.le_of_ble_eq_true rfl, Nat.le_of_ble_eq_true rfl⟩ (Nat.le_of_ble_eq_true rfl) dL_holds_128 (Jk_v rfl rfl fun hok35 => ?_)
      refine J_iload (pc := 131) dL_holds_131 6 rfl ?_
      obtain ⟨v36, e37, h⟩ := bnd_e h
      refine J_join [(0, .ref 0), (1, .int a1), (2, .int a2), (3, .int a3), (4, .int a4), (5, .int a5), (6, .int a6), (7, .int a7), (8, .int a8), (9, .int a9), (11, .int x11)] M33 153 [.int v36, .int x10] ?_ (fun hJ => ?_)
      · refine J_iadd (pc := 153) dL_holds_153 ?_
        obtain ⟨v40, e41, h⟩ := bnd_e h
        refine J_topi e41 ?_
        refine J_istore (pc := 154) dL_holds_154 (Nat.le_of_ble_eq_true rfl) [1, 2, 3, 4, 5, 6, 7, 8, 9, 10, 0, 11] rfl ?_
        obtain ⟨v42, e43, h⟩ := bnd_e h
        refine J_iinc (v := v42) (pc := 156) dL_holds_156 11 rfl (by rw [e43]; rfl) (Nat.le_of_ble_eq_true rfl) [1, 2, 3, 4, 5, 6, 7, 8, 9, 10, 11, 0] rfl ?_
        refine J_LS [(0, .ref 0), (1, .int a1), (2, .int a2), (3, .int a3), (4, .int a4), (5, .int a5), (6, .int a6), (7, .int a7), (8, .int a8), (9, .int a9), (10, .int v40), (11, .int v42)] [] rfl rfl ?_
        refine J_goto (pc := 159) (tgt := 98) dL_holds_159 (by decide) ?_
        exact ih _ _ _ h
      · refine J_icmp_eq (pc := 133) (tgt := 140) dL_holds_133 (by decide) (fun c38 => ?_) (fun c38 => ?_)
        · refine J_iload (pc := 140) dL_holds_140 12 rfl ?_
          refine J_if_ge (pc := 142) (tgt := 151) dL_holds_142 (by decide) (fun c39 => ?_) (fun c39 => ?_)
          · refine J_iload (pc := 151) dL_holds_151 12 rfl ?_
            refine J_sub [0, 1, 2, 3, 4, 5, 6, 7, 8, 9, 11] rfl ?_
            refine J_topi (y := v36) (by rw [e37, if_pos c38, if_pos c39]) ?_
            exact hJ
          · refine J_iload (pc := 145) dL_holds_145 12 rfl ?_
            refine J_ineg (pc := 147) dL_holds_147 ?_
            refine J_goto (pc := 148) (tgt := 153) dL_holds_148 (by decide) ?_
            refine J_sub [0, 1, 2, 3, 4, 5, 6, 7, 8, 9, 11] rfl ?_
            refine J_topi (y := v36) (by rw [e37, if_pos c38, if_neg c39]) ?_
            exact hJ
        · refine J_iconst (v := (0 : Int32)) (pc := 136) dL_holds_136 (by decide) ?_
          refine J_goto (pc := 137) (tgt := 153) dL_holds_137 (by decide) ?_
          refine J_sub [0, 1, 2, 3, 4, 5, 6, 7, 8, 9, 11] rfl ?_
          refine J_topi (y := v36) (by rw [e37, if_neg c38]) ?_
          exact hJ
set_option maxHeartbeats 4000000 in
set_option maxRecDepth 100000 in
theorem kL_L_holds_L165 {κ : Kx} {E : En} {Q : State → Prop} {ρ : Type} {r : ρ} (a1 : Int32) (a2 : Int32) (a3 : Int32) (a4 : Int32) (a6 : Int32) (a7 : Int32) (a8 : Int32) (a9 : Int32) (a10 : Int32) (K234 : Int32 → Wd → Option ρ) (hK234 : ∀ (x5 : Int32) (M : Wd), K234 x5 M = some r → J κ E mi_L_holds Q 0 0 [(0, .ref 0), (1, .int a1), (2, .int a2), (3, .int a3), (4, .int a4), (5, .int x5), (6, .int a6), (7, .int a7), (8, .int a8), (9, .int a9), (10, .int a10)] M 234 []) : ∀ (m : Nat) (x5 : Int32) (x11 : Int32) (M : Wd), F_L_holds_L165 a1 a2 a3 a4 a6 a7 a8 a9 a10 K234 m x5 x11 M = some r → J κ E mi_L_holds Q 0 0 [(0, .ref 0), (1, .int a1), (2, .int a2), (3, .int a3), (4, .int a4), (5, .int x5), (6, .int a6), (7, .int a7), (8, .int a8), (9, .int a9), (10, .int a10), (11, .int x11)] M 165 [] := by
  intro m
  induction m with
  | zero => intro x5 x11 M h; exact (nomatch (show (none : Option ρ) = some r from h))
  | succ m ih =>
    intro x5 x11 M h
    unfold F_L_holds_L165 at h
    refine J_iload (pc := 165) dL_holds_165 11 rfl ?_
    refine J_iload (pc := 167) dL_holds_167 9 rfl ?_
    refine J_icmp_ge (pc := 169) (tgt := 234) dL_holds_169 (by decide) (fun c46 => ?_) (fun c46 => ?_)
    · replace h := ifp c46 h
      refine J_sub [0, 1, 2, 3, 4, 5, 6, 7, 8, 9, 10] rfl ?_
      exact hK234 _ _ h
    · replace h := ifn c46 h
      refine J_iload (pc := 172) dL_holds_172 5 rfl ?_
      refine J_if_eq (pc := 174) (tgt := 234) dL_holds_174 (by decide) (fun c47 => ?_) (fun c47 => ?_)
      · replace h := ifp c47 h
        refine J_sub [0, 1, 2, 3, 4, 5, 6, 7, 8, 9, 10] rfl ?_
        exact hK234 _ _ h
      · replace h := ifn c47 h
        refine J_aload_n (pc := 177) dL_holds_177 rfl 0 rfl ?_
        refine J_bipush (v := (13 : Int32)) (pc := 178) dL_holds_178 (by decide) ?_
        refine J_iload (pc := 180) dL_holds_180 7 rfl ?_
        refine J_iconst (v := (5 : Int32)) (pc := 182) dL_holds_182 (by decide) ?_
        obtain ⟨v48, e49, h⟩ := bnd_e h
        refine J_join [(0, .ref 0), (1, .int a1), (2, .int a2), (3, .int a3), (4, .int a4), (6, .int a6), (7, .int a7), (8, .int a8), (9, .int a9), (10, .int a10), (11, .int x11)] M 211 [.int v48, .int (13 : Int32), .ref 0] ?_ (fun hJ => ?_)
        · refine J_iconst (v := (0 : Int32)) (pc := 211) dL_holds_211 (by decide) ?_
          refine J_iconst (v := (0 : Int32)) (pc := 212) dL_holds_212 (by decide) ?_
          obtain ⟨v51, M52, hc53, h⟩ := obind2_e h
          refine J_callS (g := mi_L_call_n) (pc := 213) [.ref 0, .int (13 : Int32), .int v48, .int (0 : Int32), .int (0 : Int32)] [] ms_L_call_n w_431 (k_L_call_n  (13 : Int32) v48 (0 : Int32) (0 : Int32) _ hc53) rfl rfl ⟨⟨Nat.le_of_ble_eq_true rfl, Nat.le_of_ble_eq_true rfl⟩, Nat.le_of_ble_eq_true rfl, Nat.le_of_ble_eq_true rfl⟩ (Nat.le_of_ble_eq_true rfl) dL_holds_213 (Jk_v rfl rfl fun hok54 => ?_)
          refine J_iload (pc := 216) dL_holds_216 5 rfl ?_
          obtain ⟨v55, e56, h⟩ := bnd_e h
          have hb58 : isB v55 := by rw [e56]; repeat (first | exact Or.inl rfl | exact Or.inr rfl | assumption | exact okB_b (by assumption) | apply isB_ite)
          refine J_join [(0, .ref 0), (1, .int a1), (2, .int a2), (3, .int a3), (4, .int a4), (6, .int a6), (7, .int a7), (8, .int a8), (9, .int a9), (10, .int a10), (11, .int x11)] M52 226 [.int v55] ?_ (fun hJ => ?_)
          · refine J_istore (pc := 226) dL_holds_226 (Nat.le_of_ble_eq_true rfl) [1, 2, 3, 4, 5, 0, 6, 7, 8, 9, 10, 11] rfl ?_
            obtain ⟨v59, e60, h⟩ := bnd_e h
            refine J_iinc (v := v59) (pc := 228) dL_holds_228 11 rfl (by rw [e60]; rfl) (Nat.le_of_ble_eq_true rfl) [1, 2, 3, 4, 5, 6, 7, 8, 9, 10, 11, 0] rfl ?_
            refine J_LS [(0, .ref 0), (1, .int a1), (2, .int a2), (3, .int a3), (4, .int a4), (5, .int v55), (6, .int a6), (7, .int a7), (8, .int a8), (9, .int a9), (10, .int a10), (11, .int v59)] [] rfl rfl ?_
            refine J_goto (pc := 231) (tgt := 165) dL_holds_231 (by decide) ?_
            exact ih _ _ _ h
          · refine J_icmp_ne (pc := 218) (tgt := 225) dL_holds_218 (by decide) (fun c57 => ?_) (fun c57 => ?_)
            · refine J_iconst (v := (0 : Int32)) (pc := 225) dL_holds_225 (by decide) ?_
              refine J_topi (y := v55) (by rw [e56, if_neg c57]) ?_
              exact hJ
            · refine J_iconst (v := (1 : Int32)) (pc := 221) dL_holds_221 (by decide) ?_
              refine J_goto (pc := 222) (tgt := 226) dL_holds_222 (by decide) ?_
              refine J_topi (y := v55) (by rw [e56, if_pos c57]) ?_
              exact hJ
        · refine J_icmp_ge (pc := 183) (tgt := 199) dL_holds_183 (by decide) (fun c50 => ?_) (fun c50 => ?_)
          · refine J_iconst (v := (5 : Int32)) (pc := 199) dL_holds_199 (by decide) ?_
            refine J_iload (pc := 200) dL_holds_200 8 rfl ?_
            refine J_iload (pc := 202) dL_holds_202 11 rfl ?_
            refine J_iadd (pc := 204) dL_holds_204 ?_
            refine J_imul (pc := 205) dL_holds_205 ?_
            refine J_iload (pc := 206) dL_holds_206 7 rfl ?_
            refine J_iadd (pc := 208) dL_holds_208 ?_
            refine J_iconst (v := (5 : Int32)) (pc := 209) dL_holds_209 (by decide) ?_
            refine J_isub (pc := 210) dL_holds_210 ?_
            refine J_sub [0, 1, 2, 3, 4, 6, 7, 8, 9, 10, 11] rfl ?_
            refine J_topi (y := v48) (by rw [e49, if_pos c50]) ?_
            exact hJ
          · refine J_iconst (v := (5 : Int32)) (pc := 186) dL_holds_186 (by decide) ?_
            refine J_iload (pc := 187) dL_holds_187 7 rfl ?_
            refine J_imul (pc := 189) dL_holds_189 ?_
            refine J_iload (pc := 190) dL_holds_190 8 rfl ?_
            refine J_iadd (pc := 192) dL_holds_192 ?_
            refine J_iload (pc := 193) dL_holds_193 11 rfl ?_
            refine J_iadd (pc := 195) dL_holds_195 ?_
            refine J_goto (pc := 196) (tgt := 211) dL_holds_196 (by decide) ?_
            refine J_sub [0, 1, 2, 3, 4, 6, 7, 8, 9, 10, 11] rfl ?_
            refine J_topi (y := v48) (by rw [e49, if_neg c50]) ?_
            exact hJ
set_option maxHeartbeats 4000000 in
set_option maxRecDepth 100000 in
theorem kL_L_holds_L45 {κ : Kx} {E : En} {Q : State → Prop} {ρ : Type} {r : ρ} (a1 : Int32) (K354 : Int32 → Int32 → Int32 → Int32 → Wd → Option ρ) (hK354 : ∀ (x2 : Int32) (x3 : Int32) (x4 : Int32) (x5 : Int32) (M : Wd), K354 x2 x3 x4 x5 M = some r → J κ E mi_L_holds Q 0 0 [(0, .ref 0), (2, .int x2), (3, .int x3), (4, .int x4), (5, .int x5)] M 354 []) : ∀ (m : Nat) (x2 : Int32) (x3 : Int32) (x4 : Int32) (x5 : Int32) (x6 : Int32) (M : Wd), F_L_holds_L45 a1 K354 m x2 x3 x4 x5 x6 M = some r → J κ E mi_L_holds Q 0 0 [(0, .ref 0), (1, .int a1), (2, .int x2), (3, .int x3), (4, .int x4), (5, .int x5), (6, .int x6)] M 45 [] := by
  intro m
  induction m with
  | zero => intro x2 x3 x4 x5 x6 M h; exact (nomatch (show (none : Option ρ) = some r from h))
  | succ m ih =>
    intro x2 x3 x4 x5 x6 M h
    unfold F_L_holds_L45 at h
    refine J_iload (pc := 45) dL_holds_45 6 rfl ?_
    refine J_iload_n (pc := 47) dL_holds_47 rfl 1 rfl ?_
    refine J_icmp_ge (pc := 48) (tgt := 354) dL_holds_48 (by decide) (fun c12 => ?_) (fun c12 => ?_)
    · replace h := ifp c12 h
      refine J_sub [0, 2, 3, 4, 5] rfl ?_
      exact hK354 _ _ _ _ _ h
    · replace h := ifn c12 h
      refine J_iload (pc := 51) dL_holds_51 5 rfl ?_
      refine J_if_eq (pc := 53) (tgt := 354) dL_holds_53 (by decide) (fun c13 => ?_) (fun c13 => ?_)
      · replace h := ifp c13 h
        refine J_sub [0, 2, 3, 4, 5] rfl ?_
        exact hK354 _ _ _ _ _ h
      · replace h := ifn c13 h
        refine J_aload_n (pc := 56) dL_holds_56 rfl 0 rfl ?_
        refine J_bipush (v := (10 : Int32)) (pc := 57) dL_holds_57 (by decide) ?_
        refine J_iload (pc := 59) dL_holds_59 6 rfl ?_
        refine J_iconst (v := (0 : Int32)) (pc := 61) dL_holds_61 (by decide) ?_
        refine J_iconst (v := (0 : Int32)) (pc := 62) dL_holds_62 (by decide) ?_
        obtain ⟨v14, M15, hc16, h⟩ := obind2_e h
        refine J_callS (g := mi_L_call_n) (pc := 63) [.ref 0, .int (10 : Int32), .int x6, .int (0 : Int32), .int (0 : Int32)] [] ms_L_call_n w_431 (k_L_call_n  (10 : Int32) x6 (0 : Int32) (0 : Int32) _ hc16) rfl rfl ⟨⟨Nat.le_of_ble_eq_true rfl, Nat.le_of_ble_eq_true rfl⟩, Nat.le_of_ble_eq_true rfl, Nat.le_of_ble_eq_true rfl⟩ (Nat.le_of_ble_eq_true rfl) dL_holds_63 (Jk_v rfl rfl fun hok17 => ?_)
        refine J_istore (pc := 66) dL_holds_66 (Nat.le_of_ble_eq_true rfl) [1, 2, 3, 4, 5, 6, 7, 0] rfl ?_
        refine J_aload_n (pc := 68) dL_holds_68 rfl 0 rfl ?_
        refine J_bipush (v := (11 : Int32)) (pc := 69) dL_holds_69 (by decide) ?_
        refine J_iload (pc := 71) dL_holds_71 6 rfl ?_
        refine J_iconst (v := (0 : Int32)) (pc := 73) dL_holds_73 (by decide) ?_
        refine J_iconst (v := (0 : Int32)) (pc := 74) dL_holds_74 (by decide) ?_
        obtain ⟨v18, M19, hc20, h⟩ := obind2_e h
        refine J_callS (g := mi_L_call_n) (pc := 75) [.ref 0, .int (11 : Int32), .int x6, .int (0 : Int32), .int (0 : Int32)] [] ms_L_call_n w_431 (k_L_call_n  (11 : Int32) x6 (0 : Int32) (0 : Int32) _ hc20) rfl rfl ⟨⟨Nat.le_of_ble_eq_true rfl, Nat.le_of_ble_eq_true rfl⟩, Nat.le_of_ble_eq_true rfl, Nat.le_of_ble_eq_true rfl⟩ (Nat.le_of_ble_eq_true rfl) dL_holds_75 (Jk_v rfl rfl fun hok21 => ?_)
        refine J_istore (pc := 78) dL_holds_78 (Nat.le_of_ble_eq_true rfl) [1, 2, 3, 4, 5, 6, 7, 8, 0] rfl ?_
        refine J_LS [(0, .ref 0), (1, .int a1), (2, .int x2), (3, .int x3), (4, .int x4), (5, .int x5), (6, .int x6), (7, .int v14), (8, .int v18)] [] rfl rfl ?_
        refine J_aload_n (pc := 80) dL_holds_80 rfl 0 rfl ?_
        refine J_bipush (v := (12 : Int32)) (pc := 81) dL_holds_81 (by decide) ?_
        refine J_iload (pc := 83) dL_holds_83 6 rfl ?_
        refine J_iconst (v := (0 : Int32)) (pc := 85) dL_holds_85 (by decide) ?_
        refine J_iconst (v := (0 : Int32)) (pc := 86) dL_holds_86 (by decide) ?_
        obtain ⟨v22, M23, hc24, h⟩ := obind2_e h
        refine J_callS (g := mi_L_call_n) (pc := 87) [.ref 0, .int (12 : Int32), .int x6, .int (0 : Int32), .int (0 : Int32)] [] ms_L_call_n w_431 (k_L_call_n  (12 : Int32) x6 (0 : Int32) (0 : Int32) _ hc24) rfl rfl ⟨⟨Nat.le_of_ble_eq_true rfl, Nat.le_of_ble_eq_true rfl⟩, Nat.le_of_ble_eq_true rfl, Nat.le_of_ble_eq_true rfl⟩ (Nat.le_of_ble_eq_true rfl) dL_holds_87 (Jk_v rfl rfl fun hok25 => ?_)
        refine J_istore (pc := 90) dL_holds_90 (Nat.le_of_ble_eq_true rfl) [1, 2, 3, 4, 5, 6, 7, 8, 9, 0] rfl ?_
        refine J_iconst (v := (0 : Int32)) (pc := 92) dL_holds_92 (by decide) ?_
        refine J_istore (pc := 93) dL_holds_93 (Nat.le_of_ble_eq_true rfl) [1, 2, 3, 4, 5, 6, 7, 8, 9, 10, 0] rfl ?_
        refine J_LS [(0, .ref 0), (1, .int a1), (2, .int x2), (3, .int x3), (4, .int x4), (5, .int x5), (6, .int x6), (7, .int v14), (8, .int v18), (9, .int v22), (10, .int (0 : Int32))] [] rfl rfl ?_
        refine J_iconst (v := (0 : Int32)) (pc := 95) dL_holds_95 (by decide) ?_
        refine J_istore (pc := 96) dL_holds_96 (Nat.le_of_ble_eq_true rfl) [1, 2, 3, 4, 5, 6, 7, 8, 9, 10, 11, 0] rfl ?_
        refine kL_L_holds_L98 _ _ _ _ _ _ _ _ _ _ (fun v44 M45 h => ?_) fuelN _ _ _ h
        refine J_iconst (v := (0 : Int32)) (pc := 162) dL_holds_162 (by decide) ?_
        refine J_istore (pc := 163) dL_holds_163 (Nat.le_of_ble_eq_true rfl) [1, 2, 3, 4, 5, 6, 7, 8, 9, 10, 11, 0] rfl ?_
        refine J_LS [(0, .ref 0), (1, .int a1), (2, .int x2), (3, .int x3), (4, .int x4), (5, .int x5), (6, .int x6), (7, .int v14), (8, .int v18), (9, .int v22), (10, .int v44), (11, .int (0 : Int32))] [] rfl rfl ?_
        refine kL_L_holds_L165 _ _ _ _ _ _ _ _ _ _ (fun v61 M62 h => ?_) fuelN _ _ _ h
        refine J_iload_n (pc := 234) dL_holds_234 rfl 2 rfl ?_
        refine J_iload (pc := 235) dL_holds_235 9 rfl ?_
        refine J_iadd (pc := 237) dL_holds_237 ?_
        obtain ⟨v63, e64, h⟩ := bnd_e h
        refine J_topi e64 ?_
        refine J_istore_n (pc := 238) dL_holds_238 rfl (Nat.le_of_ble_eq_true rfl) [1, 2, 0, 3, 4, 5, 6, 7, 8, 9, 10] rfl ?_
        refine J_iload (pc := 239) dL_holds_239 4 rfl ?_
        refine J_iload (pc := 241) dL_holds_241 10 rfl ?_
        refine J_iload (pc := 243) dL_holds_243 9 rfl ?_
        refine J_imul (pc := 245) dL_holds_245 ?_
        refine J_iadd (pc := 246) dL_holds_246 ?_
        obtain ⟨v65, e66, h⟩ := bnd_e h
        refine J_topi e66 ?_
        refine J_istore (pc := 247) dL_holds_247 (Nat.le_of_ble_eq_true rfl) [1, 2, 3, 4, 0, 5, 6, 7, 8, 9, 10] rfl ?_
        refine J_LS [(0, .ref 0), (1, .int a1), (2, .int v63), (3, .int x3), (4, .int v65), (5, .int v61), (6, .int x6), (7, .int v14), (8, .int v18), (9, .int v22), (10, .int v44)] [] rfl rfl ?_
        refine J_iload_n (pc := 249) dL_holds_249 rfl 3 rfl ?_
        refine J_aload_n (pc := 250) dL_holds_250 rfl 0 rfl ?_
        refine J_iload (pc := 251) dL_holds_251 6 rfl ?_
        refine J_iconst (v := (1 : Int32)) (pc := 253) dL_holds_253 (by decide) ?_
        obtain ⟨v67, hc68, h⟩ := obind_e h
        refine J_callSX (g := mi_L_room_n) (pc := 254) [.ref 0, .int x6, .int (1 : Int32)] [.int x3] ms_L_room_n w_878 (k_L_room_n  x6 (1 : Int32) _ hc68) rfl rfl ⟨⟨Nat.le_of_ble_eq_true rfl, Nat.le_of_ble_eq_true rfl⟩, Nat.le_of_ble_eq_true rfl, Nat.le_of_ble_eq_true rfl⟩ (Nat.le_of_ble_eq_true rfl) dL_holds_254 (Jk_v rfl rfl fun hok69 => ?_)
        refine J_aload_n (pc := 257) dL_holds_257 rfl 0 rfl ?_
        refine J_iload (pc := 258) dL_holds_258 6 rfl ?_
        refine J_iconst (v := (0 : Int32)) (pc := 260) dL_holds_260 (by decide) ?_
        obtain ⟨v70, hc71, h⟩ := obind_e h
        refine J_callSX (g := mi_L_room_n) (pc := 261) [.ref 0, .int x6, .int (0 : Int32)] [.int v67, .int x3] ms_L_room_n w_878 (k_L_room_n  x6 (0 : Int32) _ hc71) rfl rfl ⟨⟨Nat.le_of_ble_eq_true rfl, Nat.le_of_ble_eq_true rfl⟩, Nat.le_of_ble_eq_true rfl, Nat.le_of_ble_eq_true rfl⟩ (Nat.le_of_ble_eq_true rfl) dL_holds_261 (Jk_v rfl rfl fun hok72 => ?_)
        refine J_iadd (pc := 264) dL_holds_264 ?_
        refine J_iadd (pc := 265) dL_holds_265 ?_
        obtain ⟨v73, e74, h⟩ := bnd_e h
        refine J_topi e74 ?_
        refine J_istore_n (pc := 266) dL_holds_266 rfl (Nat.le_of_ble_eq_true rfl) [1, 2, 3, 0, 4, 5, 6, 7, 8, 9, 10] rfl ?_
        refine J_iload (pc := 267) dL_holds_267 5 rfl ?_
        obtain ⟨v75, M76, hv108, h⟩ := obind2_e h
        refine J_join [(0, .ref 0), (1, .int a1), (2, .int v63), (3, .int v73), (4, .int v65), (6, .int x6)] M76 346 [.int v75] ?_ (fun hJ => ?_)
        · refine J_istore (pc := 346) dL_holds_346 (Nat.le_of_ble_eq_true rfl) [1, 2, 3, 4, 5, 0, 6] rfl ?_
          obtain ⟨v109, e110, h⟩ := bnd_e h
          refine J_iinc (v := v109) (pc := 348) dL_holds_348 6 rfl (by rw [e110]; rfl) (Nat.le_of_ble_eq_true rfl) [1, 2, 3, 4, 5, 6, 0] rfl ?_
          refine J_LS [(0, .ref 0), (1, .int a1), (2, .int v63), (3, .int v73), (4, .int v65), (5, .int v75), (6, .int v109)] [] rfl rfl ?_
          refine J_goto (pc := 351) (tgt := 45) dL_holds_351 (by decide) ?_
          exact ih _ _ _ _ _ _ h
        · replace h := hv108
          refine J_if_eq (pc := 269) (tgt := 345) dL_holds_269 (by decide) (fun c77 => ?_) (fun c77 => ?_)
          · replace h := ifp c77 h
            refine J_iconst (v := (0 : Int32)) (pc := 345) dL_holds_345 (by decide) ?_
            cases h
            refine J_sub [0, 1, 2, 3, 4, 6] rfl ?_
            exact hJ
          · replace h := ifn c77 h
            refine J_iload (pc := 272) dL_holds_272 8 rfl ?_
            refine J_if_lt (pc := 274) (tgt := 345) dL_holds_274 (by decide) (fun c78 => ?_) (fun c78 => ?_)
            · replace h := ifp c78 h
              refine J_iconst (v := (0 : Int32)) (pc := 345) dL_holds_345 (by decide) ?_
              cases h
              refine J_sub [0, 1, 2, 3, 4, 6] rfl ?_
              exact hJ
            · replace h := ifn c78 h
              refine J_iload (pc := 277) dL_holds_277 8 rfl ?_
              refine J_iload (pc := 279) dL_holds_279 9 rfl ?_
              refine J_iadd (pc := 281) dL_holds_281 ?_
              refine J_iconst (v := (5 : Int32)) (pc := 282) dL_holds_282 (by decide) ?_
              refine J_icmp_gt (pc := 283) (tgt := 345) dL_holds_283 (by decide) (fun c79 => ?_) (fun c79 => ?_)
              · replace h := ifp c79 h
                refine J_iconst (v := (0 : Int32)) (pc := 345) dL_holds_345 (by decide) ?_
                cases h
                refine J_sub [0, 1, 2, 3, 4, 6] rfl ?_
                exact hJ
              · replace h := ifn c79 h
                refine J_iload (pc := 286) dL_holds_286 6 rfl ?_
                refine J_if_gt (pc := 288) (tgt := 297) dL_holds_288 (by decide) (fun c80 => ?_) (fun c80 => ?_)
                · replace h := ifp c80 h
                  refine J_iload (pc := 297) dL_holds_297 10 rfl ?_
                  refine J_aload_n (pc := 299) dL_holds_299 rfl 0 rfl ?_
                  refine J_bipush (v := (16 : Int32)) (pc := 300) dL_holds_300 (by decide) ?_
                  refine J_iload (pc := 302) dL_holds_302 6 rfl ?_
                  refine J_iconst (v := (0 : Int32)) (pc := 304) dL_holds_304 (by decide) ?_
                  refine J_iconst (v := (0 : Int32)) (pc := 305) dL_holds_305 (by decide) ?_
                  obtain ⟨v81, M82, hc83, h⟩ := obind2_e h
                  refine J_callS (g := mi_L_call_n) (pc := 306) [.ref 0, .int (16 : Int32), .int x6, .int (0 : Int32), .int (0 : Int32)] [.int v44] ms_L_call_n w_431 (k_L_call_n  (16 : Int32) x6 (0 : Int32) (0 : Int32) _ hc83) rfl rfl ⟨⟨Nat.le_of_ble_eq_true rfl, Nat.le_of_ble_eq_true rfl⟩, Nat.le_of_ble_eq_true rfl, Nat.le_of_ble_eq_true rfl⟩ (Nat.le_of_ble_eq_true rfl) dL_holds_306 (Jk_v rfl rfl fun hok84 => ?_)
                  refine J_icmp_ne (pc := 309) (tgt := 345) dL_holds_309 (by decide) (fun c85 => ?_) (fun c85 => ?_)
                  · replace h := ifn c85 h
                    refine J_iconst (v := (0 : Int32)) (pc := 345) dL_holds_345 (by decide) ?_
                    cases h
                    refine J_sub [0, 1, 2, 3, 4, 6] rfl ?_
                    exact hJ
                  · replace h := ifp c85 h
                    refine J_aload_n (pc := 312) dL_holds_312 rfl 0 rfl ?_
                    refine J_iload (pc := 313) dL_holds_313 6 rfl ?_
                    refine J_iconst (v := (1 : Int32)) (pc := 315) dL_holds_315 (by decide) ?_
                    obtain ⟨v86, hc87, h⟩ := obind_e h
                    refine J_callSX (g := mi_L_room_n) (pc := 316) [.ref 0, .int x6, .int (1 : Int32)] [] ms_L_room_n w_878 (k_L_room_n  x6 (1 : Int32) _ hc87) rfl rfl ⟨⟨Nat.le_of_ble_eq_true rfl, Nat.le_of_ble_eq_true rfl⟩, Nat.le_of_ble_eq_true rfl, Nat.le_of_ble_eq_true rfl⟩ (Nat.le_of_ble_eq_true rfl) dL_holds_316 (Jk_v rfl rfl fun hok88 => ?_)
                    refine J_iconst (v := (5 : Int32)) (pc := 319) dL_holds_319 (by decide) ?_
                    refine J_iload (pc := 320) dL_holds_320 9 rfl ?_
                    refine J_isub (pc := 322) dL_holds_322 ?_
                    refine J_iload (pc := 323) dL_holds_323 8 rfl ?_
                    refine J_isub (pc := 325) dL_holds_325 ?_
                    refine J_icmp_gt (pc := 326) (tgt := 345) dL_holds_326 (by decide) (fun c89 => ?_) (fun c89 => ?_)
                    · replace h := ifp c89 h
                      refine J_iconst (v := (0 : Int32)) (pc := 345) dL_holds_345 (by decide) ?_
                      cases h
                      refine J_sub [0, 1, 2, 3, 4, 6] rfl ?_
                      exact hJ
                    · replace h := ifn c89 h
                      refine J_aload_n (pc := 329) dL_holds_329 rfl 0 rfl ?_
                      refine J_iload (pc := 330) dL_holds_330 6 rfl ?_
                      refine J_iconst (v := (0 : Int32)) (pc := 332) dL_holds_332 (by decide) ?_
                      obtain ⟨v90, hc91, h⟩ := obind_e h
                      refine J_callSX (g := mi_L_room_n) (pc := 333) [.ref 0, .int x6, .int (0 : Int32)] [] ms_L_room_n w_878 (k_L_room_n  x6 (0 : Int32) _ hc91) rfl rfl ⟨⟨Nat.le_of_ble_eq_true rfl, Nat.le_of_ble_eq_true rfl⟩, Nat.le_of_ble_eq_true rfl, Nat.le_of_ble_eq_true rfl⟩ (Nat.le_of_ble_eq_true rfl) dL_holds_333 (Jk_v rfl rfl fun hok92 => ?_)
                      refine J_iload (pc := 336) dL_holds_336 8 rfl ?_
                      refine J_icmp_gt (pc := 338) (tgt := 345) dL_holds_338 (by decide) (fun c93 => ?_) (fun c93 => ?_)
                      · replace h := ifp c93 h
                        refine J_iconst (v := (0 : Int32)) (pc := 345) dL_holds_345 (by decide) ?_
                        cases h
                        refine J_sub [0, 1, 2, 3, 4, 6] rfl ?_
                        exact hJ
                      · replace h := ifn c93 h
                        refine J_iconst (v := (1 : Int32)) (pc := 341) dL_holds_341 (by decide) ?_
                        refine J_goto (pc := 342) (tgt := 346) dL_holds_342 (by decide) ?_
                        cases h
                        refine J_sub [0, 1, 2, 3, 4, 6] rfl ?_
                        exact hJ
                · replace h := ifn c80 h
                  refine J_iload (pc := 291) dL_holds_291 7 rfl ?_
                  refine J_iconst (v := (5 : Int32)) (pc := 293) dL_holds_293 (by decide) ?_
                  refine J_icmp_ge (pc := 294) (tgt := 345) dL_holds_294 (by decide) (fun c94 => ?_) (fun c94 => ?_)
                  · replace h := ifp c94 h
                    refine J_iconst (v := (0 : Int32)) (pc := 345) dL_holds_345 (by decide) ?_
                    cases h
                    refine J_sub [0, 1, 2, 3, 4, 6] rfl ?_
                    exact hJ
                  · replace h := ifn c94 h
                    refine J_iload (pc := 297) dL_holds_297 10 rfl ?_
                    refine J_aload_n (pc := 299) dL_holds_299 rfl 0 rfl ?_
                    refine J_bipush (v := (16 : Int32)) (pc := 300) dL_holds_300 (by decide) ?_
                    refine J_iload (pc := 302) dL_holds_302 6 rfl ?_
                    refine J_iconst (v := (0 : Int32)) (pc := 304) dL_holds_304 (by decide) ?_
                    refine J_iconst (v := (0 : Int32)) (pc := 305) dL_holds_305 (by decide) ?_
                    obtain ⟨v95, M96, hc97, h⟩ := obind2_e h
                    refine J_callS (g := mi_L_call_n) (pc := 306) [.ref 0, .int (16 : Int32), .int x6, .int (0 : Int32), .int (0 : Int32)] [.int v44] ms_L_call_n w_431 (k_L_call_n  (16 : Int32) x6 (0 : Int32) (0 : Int32) _ hc97) rfl rfl ⟨⟨Nat.le_of_ble_eq_true rfl, Nat.le_of_ble_eq_true rfl⟩, Nat.le_of_ble_eq_true rfl, Nat.le_of_ble_eq_true rfl⟩ (Nat.le_of_ble_eq_true rfl) dL_holds_306 (Jk_v rfl rfl fun hok98 => ?_)
                    refine J_icmp_ne (pc := 309) (tgt := 345) dL_holds_309 (by decide) (fun c99 => ?_) (fun c99 => ?_)
                    · replace h := ifn c99 h
                      refine J_iconst (v := (0 : Int32)) (pc := 345) dL_holds_345 (by decide) ?_
                      cases h
                      refine J_sub [0, 1, 2, 3, 4, 6] rfl ?_
                      exact hJ
                    · replace h := ifp c99 h
                      refine J_aload_n (pc := 312) dL_holds_312 rfl 0 rfl ?_
                      refine J_iload (pc := 313) dL_holds_313 6 rfl ?_
                      refine J_iconst (v := (1 : Int32)) (pc := 315) dL_holds_315 (by decide) ?_
                      obtain ⟨v100, hc101, h⟩ := obind_e h
                      refine J_callSX (g := mi_L_room_n) (pc := 316) [.ref 0, .int x6, .int (1 : Int32)] [] ms_L_room_n w_878 (k_L_room_n  x6 (1 : Int32) _ hc101) rfl rfl ⟨⟨Nat.le_of_ble_eq_true rfl, Nat.le_of_ble_eq_true rfl⟩, Nat.le_of_ble_eq_true rfl, Nat.le_of_ble_eq_true rfl⟩ (Nat.le_of_ble_eq_true rfl) dL_holds_316 (Jk_v rfl rfl fun hok102 => ?_)
                      refine J_iconst (v := (5 : Int32)) (pc := 319) dL_holds_319 (by decide) ?_
                      refine J_iload (pc := 320) dL_holds_320 9 rfl ?_
                      refine J_isub (pc := 322) dL_holds_322 ?_
                      refine J_iload (pc := 323) dL_holds_323 8 rfl ?_
                      refine J_isub (pc := 325) dL_holds_325 ?_
                      refine J_icmp_gt (pc := 326) (tgt := 345) dL_holds_326 (by decide) (fun c103 => ?_) (fun c103 => ?_)
                      · replace h := ifp c103 h
                        refine J_iconst (v := (0 : Int32)) (pc := 345) dL_holds_345 (by decide) ?_
                        cases h
                        refine J_sub [0, 1, 2, 3, 4, 6] rfl ?_
                        exact hJ
                      · replace h := ifn c103 h
                        refine J_aload_n (pc := 329) dL_holds_329 rfl 0 rfl ?_
                        refine J_iload (pc := 330) dL_holds_330 6 rfl ?_
                        refine J_iconst (v := (0 : Int32)) (pc := 332) dL_holds_332 (by decide) ?_
                        obtain ⟨v104, hc105, h⟩ := obind_e h
                        refine J_callSX (g := mi_L_room_n) (pc := 333) [.ref 0, .int x6, .int (0 : Int32)] [] ms_L_room_n w_878 (k_L_room_n  x6 (0 : Int32) _ hc105) rfl rfl ⟨⟨Nat.le_of_ble_eq_true rfl, Nat.le_of_ble_eq_true rfl⟩, Nat.le_of_ble_eq_true rfl, Nat.le_of_ble_eq_true rfl⟩ (Nat.le_of_ble_eq_true rfl) dL_holds_333 (Jk_v rfl rfl fun hok106 => ?_)
                        refine J_iload (pc := 336) dL_holds_336 8 rfl ?_
                        refine J_icmp_gt (pc := 338) (tgt := 345) dL_holds_338 (by decide) (fun c107 => ?_) (fun c107 => ?_)
                        · replace h := ifp c107 h
                          refine J_iconst (v := (0 : Int32)) (pc := 345) dL_holds_345 (by decide) ?_
                          cases h
                          refine J_sub [0, 1, 2, 3, 4, 6] rfl ?_
                          exact hJ
                        · replace h := ifn c107 h
                          refine J_iconst (v := (1 : Int32)) (pc := 341) dL_holds_341 (by decide) ?_
                          refine J_goto (pc := 342) (tgt := 346) dL_holds_342 (by decide) ?_
                          cases h
                          refine J_sub [0, 1, 2, 3, 4, 6] rfl ?_
                          exact hJ
set_option maxHeartbeats 4000000 in
set_option maxRecDepth 100000 in
theorem k_L_holds {E : En} (M : Wd) {r : Int32} {M' : Wd} (h : F_L_holds M = some (r, M')) : Con E mi_L_holds [.ref 0] M (.inl (some (.int r))) M' := by
  unfold F_L_holds at h
  refine Con.of (by decide) rfl (Nat.le_of_ble_eq_true rfl) (fun κ => ?_)
  show J κ E mi_L_holds _ 0 0 [(0, .ref 0)] M 0 []
  refine J_aload_n (pc := 0) dL_holds_0 rfl 0 rfl ?_
  refine J_callV (g := mi_X3_cars) (ci := 3) (pc := 1) [] [] mv_X3_cars w_427 (k_X3_cars  _) rfl (by decide) rfl rfl rfl ⟨⟨Nat.le_of_ble_eq_true rfl, Nat.le_of_ble_eq_true rfl⟩, Nat.le_of_ble_eq_true rfl, Nat.le_of_ble_eq_true rfl⟩ (Nat.le_of_ble_eq_true rfl) dL_holds_1 (Jk_v rfl rfl fun hok1 => ?_)
  obtain ⟨v2, e3, h⟩ := bnd_e h
  refine J_topi e3 ?_
  refine J_istore_n (pc := 4) dL_holds_4 rfl (Nat.le_of_ble_eq_true rfl) [1, 0] rfl ?_
  refine J_iconst (v := (0 : Int32)) (pc := 5) dL_holds_5 (by decide) ?_
  refine J_istore_n (pc := 6) dL_holds_6 rfl (Nat.le_of_ble_eq_true rfl) [1, 2, 0] rfl ?_
  refine J_LS [(0, .ref 0), (1, .int v2), (2, .int (0 : Int32))] [] rfl rfl ?_
  refine J_iconst (v := (0 : Int32)) (pc := 7) dL_holds_7 (by decide) ?_
  refine J_istore_n (pc := 8) dL_holds_8 rfl (Nat.le_of_ble_eq_true rfl) [1, 2, 3, 0] rfl ?_
  refine J_iconst (v := (0 : Int32)) (pc := 9) dL_holds_9 (by decide) ?_
  refine J_istore (pc := 10) dL_holds_10 (Nat.le_of_ble_eq_true rfl) [1, 2, 3, 4, 0] rfl ?_
  refine J_LS [(0, .ref 0), (1, .int v2), (2, .int (0 : Int32)), (3, .int (0 : Int32)), (4, .int (0 : Int32))] [] rfl rfl ?_
  refine J_iload_n (pc := 12) dL_holds_12 rfl 1 rfl ?_
  refine J_bipush (v := (6 : Int32)) (pc := 13) dL_holds_13 (by decide) ?_
  obtain ⟨v4, e5, h⟩ := bnd_e h
  have hb11 : isB v4 := by rw [e5]; repeat (first | exact Or.inl rfl | exact Or.inr rfl | assumption | exact okB_b (by assumption) | apply isB_ite)
  refine J_join [(0, .ref 0), (1, .int v2), (2, .int (0 : Int32)), (3, .int (0 : Int32)), (4, .int (0 : Int32))] M 40 [.int v4] ?_ (fun hJ => ?_)
  · refine J_istore (pc := 40) dL_holds_40 (Nat.le_of_ble_eq_true rfl) [1, 2, 3, 4, 5, 0] rfl ?_
    refine J_iconst (v := (0 : Int32)) (pc := 42) dL_holds_42 (by decide) ?_
    refine J_istore (pc := 43) dL_holds_43 (Nat.le_of_ble_eq_true rfl) [1, 2, 3, 4, 5, 6, 0] rfl ?_
    refine J_LS [(0, .ref 0), (1, .int v2), (2, .int (0 : Int32)), (3, .int (0 : Int32)), (4, .int (0 : Int32)), (5, .int v4), (6, .int (0 : Int32))] [] rfl rfl ?_
    refine kL_L_holds_L45 _ _ (fun v111 v112 v113 v114 M115 h => ?_) fuelN _ _ _ _ _ _ h
    refine J_iload (pc := 354) dL_holds_354 4 rfl ?_
    refine J_if_eq (pc := 356) (tgt := 405) dL_holds_356 (by decide) (fun c116 => ?_) (fun c116 => ?_)
    · replace h := ifp c116 h
      refine J_iconst (v := (0 : Int32)) (pc := 405) dL_holds_405 (by decide) ?_
      cases h
      exact J_zreturn dL_holds_406 rfl (Or.inl rfl) rfl rfl rfl rfl
    · replace h := ifn c116 h
      refine J_aload_n (pc := 359) dL_holds_359 rfl 0 rfl ?_
      obtain ⟨v117, hc118, h⟩ := obind_e h
      refine J_callV (g := mi_X3_freeCells) (ci := 3) (pc := 360) [] [] mv_X3_freeCells w_894 (k_X3_freeCells  _ hc118) rfl (by decide) rfl rfl rfl ⟨⟨Nat.le_of_ble_eq_true rfl, Nat.le_of_ble_eq_true rfl⟩, Nat.le_of_ble_eq_true rfl, Nat.le_of_ble_eq_true rfl⟩ (Nat.le_of_ble_eq_true rfl) dL_holds_360 (Jk_v rfl rfl fun hok119 => ?_)
      refine J_bipush (v := (25 : Int32)) (pc := 363) dL_holds_363 (by decide) ?_
      refine J_iload_n (pc := 365) dL_holds_365 rfl 1 rfl ?_
      refine J_isub (pc := 366) dL_holds_366 ?_
      refine J_aload_n (pc := 367) dL_holds_367 rfl 0 rfl ?_
      refine J_callV (g := mi_X3_walls) (ci := 3) (pc := 368) [] [.int ((25 : Int32) - v111), .int v117] mv_X3_walls w_889 (k_X3_walls  _) rfl (by decide) rfl rfl rfl ⟨⟨Nat.le_of_ble_eq_true rfl, Nat.le_of_ble_eq_true rfl⟩, Nat.le_of_ble_eq_true rfl, Nat.le_of_ble_eq_true rfl⟩ (Nat.le_of_ble_eq_true rfl) dL_holds_368 (Jk_v rfl rfl fun hok120 => ?_)
      refine J_isub (pc := 371) dL_holds_371 ?_
      refine J_icmp_ne (pc := 372) (tgt := 405) dL_holds_372 (by decide) (fun c121 => ?_) (fun c121 => ?_)
      · replace h := ifn c121 h
        refine J_iconst (v := (0 : Int32)) (pc := 405) dL_holds_405 (by decide) ?_
        cases h
        exact J_zreturn dL_holds_406 rfl (Or.inl rfl) rfl rfl rfl rfl
      · replace h := ifp c121 h
        refine J_aload_n (pc := 375) dL_holds_375 rfl 0 rfl ?_
        obtain ⟨v122, hc123, h⟩ := obind_e h
        refine J_callV (g := mi_X3_possibleSlides) (ci := 3) (pc := 376) [] [] mv_X3_possibleSlides w_895 (k_X3_possibleSlides  _ hc123) rfl (by decide) rfl rfl rfl ⟨⟨Nat.le_of_ble_eq_true rfl, Nat.le_of_ble_eq_true rfl⟩, Nat.le_of_ble_eq_true rfl, Nat.le_of_ble_eq_true rfl⟩ (Nat.le_of_ble_eq_true rfl) dL_holds_376 (Jk_v rfl rfl fun hok124 => ?_)
        refine J_iload_n (pc := 379) dL_holds_379 rfl 2 rfl ?_
        refine J_icmp_ne (pc := 380) (tgt := 405) dL_holds_380 (by decide) (fun c125 => ?_) (fun c125 => ?_)
        · replace h := ifn c125 h
          refine J_iconst (v := (0 : Int32)) (pc := 405) dL_holds_405 (by decide) ?_
          cases h
          exact J_zreturn dL_holds_406 rfl (Or.inl rfl) rfl rfl rfl rfl
        · replace h := ifp c125 h
          refine J_aload_n (pc := 383) dL_holds_383 rfl 0 rfl ?_
          obtain ⟨v126, hc127, h⟩ := obind_e h
          refine J_callV (g := mi_X3_fuel) (ci := 3) (pc := 384) [] [] mv_X3_fuel w_896 (k_X3_fuel  _ hc127) rfl (by decide) rfl rfl rfl ⟨⟨Nat.le_of_ble_eq_true rfl, Nat.le_of_ble_eq_true rfl⟩, Nat.le_of_ble_eq_true rfl, Nat.le_of_ble_eq_true rfl⟩ (Nat.le_of_ble_eq_true rfl) dL_holds_384 (Jk_v rfl rfl fun hok128 => ?_)
          refine J_iload (pc := 387) dL_holds_387 3 rfl ?_
          refine J_icmp_ne (pc := 389) (tgt := 405) dL_holds_389 (by decide) (fun c129 => ?_) (fun c129 => ?_)
          · replace h := ifn c129 h
            refine J_iconst (v := (0 : Int32)) (pc := 405) dL_holds_405 (by decide) ?_
            cases h
            exact J_zreturn dL_holds_406 rfl (Or.inl rfl) rfl rfl rfl rfl
          · replace h := ifp c129 h
            refine J_aload_n (pc := 392) dL_holds_392 rfl 0 rfl ?_
            obtain ⟨v130, hc131, h⟩ := obind_e h
            refine J_callV (g := mi_X3_fuelByCars) (ci := 3) (pc := 393) [] [] mv_X3_fuelByCars w_900 (k_X3_fuelByCars  _ hc131) rfl (by decide) rfl rfl rfl ⟨⟨Nat.le_of_ble_eq_true rfl, Nat.le_of_ble_eq_true rfl⟩, Nat.le_of_ble_eq_true rfl, Nat.le_of_ble_eq_true rfl⟩ (Nat.le_of_ble_eq_true rfl) dL_holds_393 (Jk_v rfl rfl fun hok132 => ?_)
            refine J_iload (pc := 396) dL_holds_396 3 rfl ?_
            refine J_icmp_ne (pc := 398) (tgt := 405) dL_holds_398 (by decide) (fun c133 => ?_) (fun c133 => ?_)
            · replace h := ifn c133 h
              refine J_iconst (v := (0 : Int32)) (pc := 405) dL_holds_405 (by decide) ?_
              cases h
              exact J_zreturn dL_holds_406 rfl (Or.inl rfl) rfl rfl rfl rfl
            · replace h := ifp c133 h
              refine J_iconst (v := (1 : Int32)) (pc := 401) dL_holds_401 (by decide) ?_
              refine J_goto (pc := 402) (tgt := 406) dL_holds_402 (by decide) ?_
              cases h
              exact J_zreturn dL_holds_406 rfl (Or.inr rfl) rfl rfl rfl rfl
  · refine J_icmp_gt (pc := 15) (tgt := 39) dL_holds_15 (by decide) (fun c6 => ?_) (fun c6 => ?_)
    · refine J_iconst (v := (0 : Int32)) (pc := 39) dL_holds_39 (by decide) ?_
      refine J_topi (y := v4) (by rw [e5, if_pos c6]) ?_
      exact hJ
    · refine J_aload_n (pc := 18) dL_holds_18 rfl 0 rfl ?_
      refine J_callV (g := mi_X3_walls) (ci := 3) (pc := 19) [] [] mv_X3_walls w_889 (k_X3_walls  _) rfl (by decide) rfl rfl rfl ⟨⟨Nat.le_of_ble_eq_true rfl, Nat.le_of_ble_eq_true rfl⟩, Nat.le_of_ble_eq_true rfl, Nat.le_of_ble_eq_true rfl⟩ (Nat.le_of_ble_eq_true rfl) dL_holds_19 (Jk_v rfl rfl fun hok7 => ?_)
      refine J_iconst (v := (4 : Int32)) (pc := 22) dL_holds_22 (by decide) ?_
      refine J_icmp_gt (pc := 23) (tgt := 39) dL_holds_23 (by decide) (fun c8 => ?_) (fun c8 => ?_)
      · refine J_iconst (v := (0 : Int32)) (pc := 39) dL_holds_39 (by decide) ?_
        refine J_topi (y := v4) (by rw [e5, if_neg c6, if_pos c8]) ?_
        exact hJ
      · refine J_aload_n (pc := 26) dL_holds_26 rfl 0 rfl ?_
        refine J_callV (g := mi_X3_logged) (ci := 3) (pc := 27) [] [] mv_X3_logged w_885 (k_X3_logged  _) rfl (by decide) rfl rfl rfl ⟨⟨Nat.le_of_ble_eq_true rfl, Nat.le_of_ble_eq_true rfl⟩, Nat.le_of_ble_eq_true rfl, Nat.le_of_ble_eq_true rfl⟩ (Nat.le_of_ble_eq_true rfl) dL_holds_27 (Jk_v rfl rfl fun hok9 => ?_)
        refine J_bipush (v := (60 : Int32)) (pc := 30) dL_holds_30 (by decide) ?_
        refine J_icmp_gt (pc := 32) (tgt := 39) dL_holds_32 (by decide) (fun c10 => ?_) (fun c10 => ?_)
        · refine J_iconst (v := (0 : Int32)) (pc := 39) dL_holds_39 (by decide) ?_
          refine J_topi (y := v4) (by rw [e5, if_neg c6, if_neg c8, if_pos c10]) ?_
          exact hJ
        · refine J_iconst (v := (1 : Int32)) (pc := 35) dL_holds_35 (by decide) ?_
          refine J_goto (pc := 36) (tgt := 40) dL_holds_36 (by decide) ?_
          refine J_topi (y := v4) (by rw [e5, if_neg c6, if_neg c8, if_neg c10]) ?_
          exact hJ
set_option maxHeartbeats 4000000 in
set_option maxRecDepth 100000 in
theorem k_L_plans {E : En} (M : Wd) {r : Int32} {M' : Wd} (h : F_L_plans M = some (r, M')) : Con E mi_L_plans [.ref 0] M (.inl (some (.int r))) M' := by
  unfold F_L_plans at h
  refine Con.of (by decide) rfl (Nat.le_of_ble_eq_true rfl) (fun κ => ?_)
  show J κ E mi_L_plans _ 0 0 [(0, .ref 0)] M 0 []
  refine J_aload_n (pc := 0) dL_plans_0 rfl 0 rfl ?_
  obtain ⟨v1, M2, hc3, h⟩ := obind2_e h
  refine J_callV (g := mi_X3_fewestSlides) (ci := 3) (pc := 1) [] [] mv_X3_fewestSlides w_907 (k_X3_fewestSlides  _ hc3) rfl (by decide) rfl rfl rfl ⟨⟨Nat.le_of_ble_eq_true rfl, Nat.le_of_ble_eq_true rfl⟩, Nat.le_of_ble_eq_true rfl, Nat.le_of_ble_eq_true rfl⟩ (Nat.le_of_ble_eq_true rfl) dL_plans_1 (Jk_v rfl rfl fun hok4 => ?_)
  refine J_istore_n (pc := 4) dL_plans_4 rfl (Nat.le_of_ble_eq_true rfl) [1, 0] rfl ?_
  refine J_aload_n (pc := 5) dL_plans_5 rfl 0 rfl ?_
  obtain ⟨v5, M6, hc7, h⟩ := obind2_e h
  refine J_callV (g := mi_X3_fewestSteps) (ci := 3) (pc := 6) [] [] mv_X3_fewestSteps w_911 (k_X3_fewestSteps  _ hc7) rfl (by decide) rfl rfl rfl ⟨⟨Nat.le_of_ble_eq_true rfl, Nat.le_of_ble_eq_true rfl⟩, Nat.le_of_ble_eq_true rfl, Nat.le_of_ble_eq_true rfl⟩ (Nat.le_of_ble_eq_true rfl) dL_plans_6 (Jk_v rfl rfl fun hok8 => ?_)
  refine J_istore_n (pc := 9) dL_plans_9 rfl (Nat.le_of_ble_eq_true rfl) [1, 2, 0] rfl ?_
  refine J_LS [(0, .ref 0), (1, .int v1), (2, .int v5)] [] rfl rfl ?_
  refine J_aload_n (pc := 10) dL_plans_10 rfl 0 rfl ?_
  obtain ⟨v9, M10, hc11, h⟩ := obind2_e h
  refine J_callV (g := mi_X3_leastFuel) (ci := 3) (pc := 11) [] [] mv_X3_leastFuel w_915 (k_X3_leastFuel  _ hc11) rfl (by decide) rfl rfl rfl ⟨⟨Nat.le_of_ble_eq_true rfl, Nat.le_of_ble_eq_true rfl⟩, Nat.le_of_ble_eq_true rfl, Nat.le_of_ble_eq_true rfl⟩ (Nat.le_of_ble_eq_true rfl) dL_plans_11 (Jk_v rfl rfl fun hok12 => ?_)
  refine J_istore_n (pc := 14) dL_plans_14 rfl (Nat.le_of_ble_eq_true rfl) [1, 2, 3, 0] rfl ?_
  refine J_aload_n (pc := 15) dL_plans_15 rfl 0 rfl ?_
  obtain ⟨v13, M14, hc15, h⟩ := obind2_e h
  refine J_callV (g := mi_X3_reachable) (ci := 3) (pc := 16) [] [] mv_X3_reachable w_919 (k_X3_reachable  _ hc15) rfl (by decide) rfl rfl rfl ⟨⟨Nat.le_of_ble_eq_true rfl, Nat.le_of_ble_eq_true rfl⟩, Nat.le_of_ble_eq_true rfl, Nat.le_of_ble_eq_true rfl⟩ (Nat.le_of_ble_eq_true rfl) dL_plans_16 (Jk_v rfl rfl fun hok16 => ?_)
  refine J_istore (pc := 19) dL_plans_19 (Nat.le_of_ble_eq_true rfl) [1, 2, 3, 4, 0] rfl ?_
  refine J_LS [(0, .ref 0), (1, .int v1), (2, .int v5), (3, .int v9), (4, .int v13)] [] rfl rfl ?_
  refine J_iload_n (pc := 21) dL_plans_21 rfl 1 rfl ?_
  refine J_aload_n (pc := 22) dL_plans_22 rfl 0 rfl ?_
  obtain ⟨v17, M18, hc19, h⟩ := obind2_e h
  refine J_callV (g := mi_X3_fewestSlidesFromEnds) (ci := 3) (pc := 23) [] [.int v1] mv_X3_fewestSlidesFromEnds w_923 (k_X3_fewestSlidesFromEnds  _ hc19) rfl (by decide) rfl rfl rfl ⟨⟨Nat.le_of_ble_eq_true rfl, Nat.le_of_ble_eq_true rfl⟩, Nat.le_of_ble_eq_true rfl, Nat.le_of_ble_eq_true rfl⟩ (Nat.le_of_ble_eq_true rfl) dL_plans_23 (Jk_v rfl rfl fun hok20 => ?_)
  obtain ⟨v21, M22, hv75, h⟩ := obind2_e h
  refine J_join [(0, .ref 0), (1, .int v1), (2, .int v5), (3, .int v9)] M22 141 [.int v21] ?_ (fun hJ => ?_)
  · refine J_istore (pc := 141) dL_plans_141 (Nat.le_of_ble_eq_true rfl) [1, 2, 3, 4, 0] rfl ?_
    refine J_iload (pc := 143) dL_plans_143 4 rfl ?_
    refine J_if_eq (pc := 145) (tgt := 206) dL_plans_145 (by decide) (fun c76 => ?_) (fun c76 => ?_)
    · replace h := ifp c76 h
      refine J_iconst (v := (0 : Int32)) (pc := 206) dL_plans_206 (by decide) ?_
      cases h
      exact J_zreturn dL_plans_207 rfl (Or.inl rfl) rfl rfl rfl rfl
    · replace h := ifn c76 h
      refine J_iload_n (pc := 148) dL_plans_148 rfl 1 rfl ?_
      refine J_if_lt (pc := 149) (tgt := 202) dL_plans_149 (by decide) (fun c77 => ?_) (fun c77 => ?_)
      · replace h := ifp c77 h
        refine J_iconst (v := (1 : Int32)) (pc := 202) dL_plans_202 (by decide) ?_
        refine J_goto (pc := 203) (tgt := 207) dL_plans_203 (by decide) ?_
        cases h
        exact J_zreturn dL_plans_207 rfl (Or.inr rfl) rfl rfl rfl rfl
      · replace h := ifn c77 h
        refine J_iload_n (pc := 152) dL_plans_152 rfl 2 rfl ?_
        refine J_iload_n (pc := 153) dL_plans_153 rfl 1 rfl ?_
        refine J_icmp_lt (pc := 154) (tgt := 206) dL_plans_154 (by decide) (fun c78 => ?_) (fun c78 => ?_)
        · replace h := ifp c78 h
          refine J_iconst (v := (0 : Int32)) (pc := 206) dL_plans_206 (by decide) ?_
          cases h
          exact J_zreturn dL_plans_207 rfl (Or.inl rfl) rfl rfl rfl rfl
        · replace h := ifn c78 h
          refine J_iload_n (pc := 157) dL_plans_157 rfl 2 rfl ?_
          refine J_iconst (v := (3 : Int32)) (pc := 158) dL_plans_158 (by decide) ?_
          refine J_iload_n (pc := 159) dL_plans_159 rfl 1 rfl ?_
          refine J_imul (pc := 160) dL_plans_160 ?_
          refine J_icmp_gt (pc := 161) (tgt := 206) dL_plans_161 (by decide) (fun c79 => ?_) (fun c79 => ?_)
          · replace h := ifp c79 h
            refine J_iconst (v := (0 : Int32)) (pc := 206) dL_plans_206 (by decide) ?_
            cases h
            exact J_zreturn dL_plans_207 rfl (Or.inl rfl) rfl rfl rfl rfl
          · replace h := ifn c79 h
            refine J_iload_n (pc := 164) dL_plans_164 rfl 3 rfl ?_
            refine J_iconst (v := (2 : Int32)) (pc := 165) dL_plans_165 (by decide) ?_
            refine J_iload_n (pc := 166) dL_plans_166 rfl 2 rfl ?_
            refine J_imul (pc := 167) dL_plans_167 ?_
            refine J_icmp_lt (pc := 168) (tgt := 206) dL_plans_168 (by decide) (fun c80 => ?_) (fun c80 => ?_)
            · replace h := ifp c80 h
              refine J_iconst (v := (0 : Int32)) (pc := 206) dL_plans_206 (by decide) ?_
              cases h
              exact J_zreturn dL_plans_207 rfl (Or.inl rfl) rfl rfl rfl rfl
            · replace h := ifn c80 h
              refine J_iload_n (pc := 171) dL_plans_171 rfl 3 rfl ?_
              refine J_iconst (v := (3 : Int32)) (pc := 172) dL_plans_172 (by decide) ?_
              refine J_iload_n (pc := 173) dL_plans_173 rfl 2 rfl ?_
              refine J_imul (pc := 174) dL_plans_174 ?_
              refine J_icmp_gt (pc := 175) (tgt := 206) dL_plans_175 (by decide) (fun c81 => ?_) (fun c81 => ?_)
              · replace h := ifp c81 h
                refine J_iconst (v := (0 : Int32)) (pc := 206) dL_plans_206 (by decide) ?_
                cases h
                exact J_zreturn dL_plans_207 rfl (Or.inl rfl) rfl rfl rfl rfl
              · replace h := ifn c81 h
                refine J_aload_n (pc := 178) dL_plans_178 rfl 0 rfl ?_
                obtain ⟨v82, M83, hc84, h⟩ := obind2_e h
                refine J_callV (g := mi_X3_farthest) (ci := 3) (pc := 179) [] [] mv_X3_farthest w_939 (k_X3_farthest  _ hc84) rfl (by decide) rfl rfl rfl ⟨⟨Nat.le_of_ble_eq_true rfl, Nat.le_of_ble_eq_true rfl⟩, Nat.le_of_ble_eq_true rfl, Nat.le_of_ble_eq_true rfl⟩ (Nat.le_of_ble_eq_true rfl) dL_plans_179 (Jk_v rfl rfl fun hok85 => ?_)
                refine J_iload_n (pc := 182) dL_plans_182 rfl 1 rfl ?_
                refine J_icmp_lt (pc := 183) (tgt := 206) dL_plans_183 (by decide) (fun c86 => ?_) (fun c86 => ?_)
                · replace h := ifp c86 h
                  refine J_iconst (v := (0 : Int32)) (pc := 206) dL_plans_206 (by decide) ?_
                  cases h
                  exact J_zreturn dL_plans_207 rfl (Or.inl rfl) rfl rfl rfl rfl
                · replace h := ifn c86 h
                  refine J_iload_n (pc := 186) dL_plans_186 rfl 1 rfl ?_
                  obtain ⟨v87, e88, h⟩ := bnd_e h
                  have hb90 : isB v87 := by rw [e88]; repeat (first | exact Or.inl rfl | exact Or.inr rfl | assumption | exact okB_b (by assumption) | apply isB_ite)
                  refine J_join [(0, .ref 0)] M83 195 [.int v87] ?_ (fun hJ => ?_)
                  · refine J_aload_n (pc := 195) dL_plans_195 rfl 0 rfl ?_
                    refine J_callV (g := mi_X3_isOut) (ci := 3) (pc := 196) [] [.int v87] mv_X3_isOut w_890 (k_X3_isOut  _) rfl (by decide) rfl rfl rfl ⟨⟨Nat.le_of_ble_eq_true rfl, Nat.le_of_ble_eq_true rfl⟩, Nat.le_of_ble_eq_true rfl, Nat.le_of_ble_eq_true rfl⟩ (Nat.le_of_ble_eq_true rfl) dL_plans_196 (Jk_v rfl rfl fun hok91 => ?_)
                    refine J_icmp_ne (pc := 199) (tgt := 206) dL_plans_199 (by decide) (fun c92 => ?_) (fun c92 => ?_)
                    · replace h := ifn c92 h
                      refine J_iconst (v := (0 : Int32)) (pc := 206) dL_plans_206 (by decide) ?_
                      cases h
                      exact J_zreturn dL_plans_207 rfl (Or.inl rfl) rfl rfl rfl rfl
                    · replace h := ifp c92 h
                      refine J_iconst (v := (1 : Int32)) (pc := 202) dL_plans_202 (by decide) ?_
                      refine J_goto (pc := 203) (tgt := 207) dL_plans_203 (by decide) ?_
                      cases h
                      exact J_zreturn dL_plans_207 rfl (Or.inr rfl) rfl rfl rfl rfl
                  · refine J_if_ne (pc := 187) (tgt := 194) dL_plans_187 (by decide) (fun c89 => ?_) (fun c89 => ?_)
                    · refine J_iconst (v := (0 : Int32)) (pc := 194) dL_plans_194 (by decide) ?_
                      refine J_sub [0] rfl ?_
                      refine J_topi (y := v87) (by rw [e88, if_neg c89]) ?_
                      exact hJ
                    · refine J_iconst (v := (1 : Int32)) (pc := 190) dL_plans_190 (by decide) ?_
                      refine J_goto (pc := 191) (tgt := 195) dL_plans_191 (by decide) ?_
                      refine J_sub [0] rfl ?_
                      refine J_topi (y := v87) (by rw [e88, if_pos c89]) ?_
                      exact hJ
  · replace h := hv75
    refine J_icmp_ne (pc := 26) (tgt := 140) dL_plans_26 (by decide) (fun c23 => ?_) (fun c23 => ?_)
    · replace h := ifn c23 h
      refine J_iconst (v := (0 : Int32)) (pc := 140) dL_plans_140 (by decide) ?_
      cases h
      refine J_sub [0, 1, 2, 3] rfl ?_
      exact hJ
    · replace h := ifp c23 h
      refine J_iload_n (pc := 29) dL_plans_29 rfl 3 rfl ?_
      refine J_aload_n (pc := 30) dL_plans_30 rfl 0 rfl ?_
      obtain ⟨v24, M25, hc26, h⟩ := obind2_e h
      refine J_callV (g := mi_X3_leastFuelByRounds) (ci := 3) (pc := 31) [] [.int v9] mv_X3_leastFuelByRounds w_927 (k_X3_leastFuelByRounds  _ hc26) rfl (by decide) rfl rfl rfl ⟨⟨Nat.le_of_ble_eq_true rfl, Nat.le_of_ble_eq_true rfl⟩, Nat.le_of_ble_eq_true rfl, Nat.le_of_ble_eq_true rfl⟩ (Nat.le_of_ble_eq_true rfl) dL_plans_31 (Jk_v rfl rfl fun hok27 => ?_)
      refine J_icmp_ne (pc := 34) (tgt := 140) dL_plans_34 (by decide) (fun c28 => ?_) (fun c28 => ?_)
      · replace h := ifn c28 h
        refine J_iconst (v := (0 : Int32)) (pc := 140) dL_plans_140 (by decide) ?_
        cases h
        refine J_sub [0, 1, 2, 3] rfl ?_
        exact hJ
      · replace h := ifp c28 h
        refine J_iload_n (pc := 37) dL_plans_37 rfl 1 rfl ?_
        obtain ⟨v29, e30, h⟩ := bnd_e h
        have hb32 : isB v29 := by rw [e30]; repeat (first | exact Or.inl rfl | exact Or.inr rfl | assumption | exact okB_b (by assumption) | apply isB_ite)
        refine J_join [(0, .ref 0), (1, .int v1), (2, .int v5), (3, .int v9), (4, .int v13)] M25 46 [.int v29] ?_ (fun hJ => ?_)
        · refine J_iload_n (pc := 46) dL_plans_46 rfl 2 rfl ?_
          obtain ⟨v33, e34, h⟩ := bnd_e h
          have hb36 : isB v33 := by rw [e34]; repeat (first | exact Or.inl rfl | exact Or.inr rfl | assumption | exact okB_b (by assumption) | apply isB_ite)
          refine J_join [(0, .ref 0), (1, .int v1), (2, .int v5), (3, .int v9), (4, .int v13)] M25 55 [.int v33, .int v29] ?_ (fun hJ => ?_)
          · refine J_icmp_ne (pc := 55) (tgt := 140) dL_plans_55 (by decide) (fun c37 => ?_) (fun c37 => ?_)
            · replace h := ifn c37 h
              refine J_iconst (v := (0 : Int32)) (pc := 140) dL_plans_140 (by decide) ?_
              cases h
              refine J_sub [0, 1, 2, 3] rfl ?_
              exact hJ
            · replace h := ifp c37 h
              refine J_iload_n (pc := 58) dL_plans_58 rfl 1 rfl ?_
              obtain ⟨v38, e39, h⟩ := bnd_e h
              have hb41 : isB v38 := by rw [e39]; repeat (first | exact Or.inl rfl | exact Or.inr rfl | assumption | exact okB_b (by assumption) | apply isB_ite)
              refine J_join [(0, .ref 0), (1, .int v1), (2, .int v5), (3, .int v9), (4, .int v13)] M25 67 [.int v38] ?_ (fun hJ => ?_)
              · refine J_iload_n (pc := 67) dL_plans_67 rfl 3 rfl ?_
                obtain ⟨v42, e43, h⟩ := bnd_e h
                have hb45 : isB v42 := by rw [e43]; repeat (first | exact Or.inl rfl | exact Or.inr rfl | assumption | exact okB_b (by assumption) | apply isB_ite)
                refine J_join [(0, .ref 0), (1, .int v1), (2, .int v5), (3, .int v9), (4, .int v13)] M25 76 [.int v42, .int v38] ?_ (fun hJ => ?_)
                · refine J_icmp_ne (pc := 76) (tgt := 140) dL_plans_76 (by decide) (fun c46 => ?_) (fun c46 => ?_)
                  · replace h := ifn c46 h
                    refine J_iconst (v := (0 : Int32)) (pc := 140) dL_plans_140 (by decide) ?_
                    cases h
                    refine J_sub [0, 1, 2, 3] rfl ?_
                    exact hJ
                  · replace h := ifp c46 h
                    refine J_aload_n (pc := 79) dL_plans_79 rfl 0 rfl ?_
                    obtain ⟨v47, M48, hc49, h⟩ := obind2_e h
                    refine J_callV (g := mi_X3_reachableOut) (ci := 3) (pc := 80) [] [] mv_X3_reachableOut w_931 (k_X3_reachableOut  _ hc49) rfl (by decide) rfl rfl rfl ⟨⟨Nat.le_of_ble_eq_true rfl, Nat.le_of_ble_eq_true rfl⟩, Nat.le_of_ble_eq_true rfl, Nat.le_of_ble_eq_true rfl⟩ (Nat.le_of_ble_eq_true rfl) dL_plans_80 (Jk_v rfl rfl fun hok50 => ?_)
                    obtain ⟨v51, e52, h⟩ := bnd_e h
                    have hb54 : isB v51 := by rw [e52]; repeat (first | exact Or.inl rfl | exact Or.inr rfl | assumption | exact okB_b (by assumption) | apply isB_ite)
                    refine J_join [(0, .ref 0), (1, .int v1), (2, .int v5), (3, .int v9), (4, .int v13)] M48 91 [.int v51] ?_ (fun hJ => ?_)
                    · refine J_iload_n (pc := 91) dL_plans_91 rfl 1 rfl ?_
                      obtain ⟨v55, e56, h⟩ := bnd_e h
                      have hb58 : isB v55 := by rw [e56]; repeat (first | exact Or.inl rfl | exact Or.inr rfl | assumption | exact okB_b (by assumption) | apply isB_ite)
                      refine J_join [(0, .ref 0), (1, .int v1), (2, .int v5), (3, .int v9), (4, .int v13)] M48 100 [.int v55, .int v51] ?_ (fun hJ => ?_)
                      · refine J_icmp_ne (pc := 100) (tgt := 140) dL_plans_100 (by decide) (fun c59 => ?_) (fun c59 => ?_)
                        · replace h := ifn c59 h
                          refine J_iconst (v := (0 : Int32)) (pc := 140) dL_plans_140 (by decide) ?_
                          cases h
                          refine J_sub [0, 1, 2, 3] rfl ?_
                          exact hJ
                        · replace h := ifp c59 h
                          refine J_iload (pc := 103) dL_plans_103 4 rfl ?_
                          refine J_iconst (v := (1 : Int32)) (pc := 105) dL_plans_105 (by decide) ?_
                          refine J_icmp_lt (pc := 106) (tgt := 140) dL_plans_106 (by decide) (fun c60 => ?_) (fun c60 => ?_)
                          · replace h := ifp c60 h
                            refine J_iconst (v := (0 : Int32)) (pc := 140) dL_plans_140 (by decide) ?_
                            cases h
                            refine J_sub [0, 1, 2, 3] rfl ?_
                            exact hJ
                          · replace h := ifn c60 h
                            refine J_iload (pc := 109) dL_plans_109 4 rfl ?_
                            refine J_aload_n (pc := 111) dL_plans_111 rfl 0 rfl ?_
                            obtain ⟨v61, M62, hc63, h⟩ := obind2_e h
                            refine J_callV (g := mi_X3_arrangements) (ci := 3) (pc := 112) [] [.int v13] mv_X3_arrangements w_935 (k_X3_arrangements  _ hc63) rfl (by decide) rfl rfl rfl ⟨⟨Nat.le_of_ble_eq_true rfl, Nat.le_of_ble_eq_true rfl⟩, Nat.le_of_ble_eq_true rfl, Nat.le_of_ble_eq_true rfl⟩ (Nat.le_of_ble_eq_true rfl) dL_plans_112 (Jk_v rfl rfl fun hok64 => ?_)
                            refine J_icmp_gt (pc := 115) (tgt := 140) dL_plans_115 (by decide) (fun c65 => ?_) (fun c65 => ?_)
                            · replace h := ifp c65 h
                              refine J_iconst (v := (0 : Int32)) (pc := 140) dL_plans_140 (by decide) ?_
                              cases h
                              refine J_sub [0, 1, 2, 3] rfl ?_
                              exact hJ
                            · replace h := ifn c65 h
                              refine J_aload_n (pc := 118) dL_plans_118 rfl 0 rfl ?_
                              obtain ⟨v66, M67, hc68, h⟩ := obind2_e h
                              refine J_callV (g := mi_X3_farthest) (ci := 3) (pc := 119) [] [] mv_X3_farthest w_939 (k_X3_farthest  _ hc68) rfl (by decide) rfl rfl rfl ⟨⟨Nat.le_of_ble_eq_true rfl, Nat.le_of_ble_eq_true rfl⟩, Nat.le_of_ble_eq_true rfl, Nat.le_of_ble_eq_true rfl⟩ (Nat.le_of_ble_eq_true rfl) dL_plans_119 (Jk_v rfl rfl fun hok69 => ?_)
                              refine J_iload (pc := 122) dL_plans_122 4 rfl ?_
                              refine J_icmp_ge (pc := 124) (tgt := 140) dL_plans_124 (by decide) (fun c70 => ?_) (fun c70 => ?_)
                              · replace h := ifp c70 h
                                refine J_iconst (v := (0 : Int32)) (pc := 140) dL_plans_140 (by decide) ?_
                                cases h
                                refine J_sub [0, 1, 2, 3] rfl ?_
                                exact hJ
                              · replace h := ifn c70 h
                                refine J_aload_n (pc := 127) dL_plans_127 rfl 0 rfl ?_
                                obtain ⟨v71, hc72, h⟩ := obind_e h
                                refine J_callV (g := mi_X3_possibleSlides) (ci := 3) (pc := 128) [] [] mv_X3_possibleSlides w_895 (k_X3_possibleSlides  _ hc72) rfl (by decide) rfl rfl rfl ⟨⟨Nat.le_of_ble_eq_true rfl, Nat.le_of_ble_eq_true rfl⟩, Nat.le_of_ble_eq_true rfl, Nat.le_of_ble_eq_true rfl⟩ (Nat.le_of_ble_eq_true rfl) dL_plans_128 (Jk_v rfl rfl fun hok73 => ?_)
                                refine J_iload (pc := 131) dL_plans_131 4 rfl ?_
                                refine J_icmp_ge (pc := 133) (tgt := 140) dL_plans_133 (by decide) (fun c74 => ?_) (fun c74 => ?_)
                                · replace h := ifp c74 h
                                  refine J_iconst (v := (0 : Int32)) (pc := 140) dL_plans_140 (by decide) ?_
                                  cases h
                                  refine J_sub [0, 1, 2, 3] rfl ?_
                                  exact hJ
                                · replace h := ifn c74 h
                                  refine J_iconst (v := (1 : Int32)) (pc := 136) dL_plans_136 (by decide) ?_
                                  refine J_goto (pc := 137) (tgt := 141) dL_plans_137 (by decide) ?_
                                  cases h
                                  refine J_sub [0, 1, 2, 3] rfl ?_
                                  exact hJ
                      · refine J_if_ge (pc := 92) (tgt := 99) dL_plans_92 (by decide) (fun c57 => ?_) (fun c57 => ?_)
                        · refine J_iconst (v := (0 : Int32)) (pc := 99) dL_plans_99 (by decide) ?_
                          refine J_topi (y := v55) (by rw [e56, if_pos c57]) ?_
                          exact hJ
                        · refine J_iconst (v := (1 : Int32)) (pc := 95) dL_plans_95 (by decide) ?_
                          refine J_goto (pc := 96) (tgt := 100) dL_plans_96 (by decide) ?_
                          refine J_topi (y := v55) (by rw [e56, if_neg c57]) ?_
                          exact hJ
                    · refine J_if_ne (pc := 83) (tgt := 90) dL_plans_83 (by decide) (fun c53 => ?_) (fun c53 => ?_)
                      · refine J_iconst (v := (0 : Int32)) (pc := 90) dL_plans_90 (by decide) ?_
                        refine J_topi (y := v51) (by rw [e52, if_neg c53]) ?_
                        exact hJ
                      · refine J_iconst (v := (1 : Int32)) (pc := 86) dL_plans_86 (by decide) ?_
                        refine J_goto (pc := 87) (tgt := 91) dL_plans_87 (by decide) ?_
                        refine J_topi (y := v51) (by rw [e52, if_pos c53]) ?_
                        exact hJ
                · refine J_if_ge (pc := 68) (tgt := 75) dL_plans_68 (by decide) (fun c44 => ?_) (fun c44 => ?_)
                  · refine J_iconst (v := (0 : Int32)) (pc := 75) dL_plans_75 (by decide) ?_
                    refine J_topi (y := v42) (by rw [e43, if_pos c44]) ?_
                    exact hJ
                  · refine J_iconst (v := (1 : Int32)) (pc := 71) dL_plans_71 (by decide) ?_
                    refine J_goto (pc := 72) (tgt := 76) dL_plans_72 (by decide) ?_
                    refine J_topi (y := v42) (by rw [e43, if_neg c44]) ?_
                    exact hJ
              · refine J_if_ge (pc := 59) (tgt := 66) dL_plans_59 (by decide) (fun c40 => ?_) (fun c40 => ?_)
                · refine J_iconst (v := (0 : Int32)) (pc := 66) dL_plans_66 (by decide) ?_
                  refine J_topi (y := v38) (by rw [e39, if_pos c40]) ?_
                  exact hJ
                · refine J_iconst (v := (1 : Int32)) (pc := 62) dL_plans_62 (by decide) ?_
                  refine J_goto (pc := 63) (tgt := 67) dL_plans_63 (by decide) ?_
                  refine J_topi (y := v38) (by rw [e39, if_neg c40]) ?_
                  exact hJ
          · refine J_if_ge (pc := 47) (tgt := 54) dL_plans_47 (by decide) (fun c35 => ?_) (fun c35 => ?_)
            · refine J_iconst (v := (0 : Int32)) (pc := 54) dL_plans_54 (by decide) ?_
              refine J_topi (y := v33) (by rw [e34, if_pos c35]) ?_
              exact hJ
            · refine J_iconst (v := (1 : Int32)) (pc := 50) dL_plans_50 (by decide) ?_
              refine J_goto (pc := 51) (tgt := 55) dL_plans_51 (by decide) ?_
              refine J_topi (y := v33) (by rw [e34, if_neg c35]) ?_
              exact hJ
        · refine J_if_ge (pc := 38) (tgt := 45) dL_plans_38 (by decide) (fun c31 => ?_) (fun c31 => ?_)
          · refine J_iconst (v := (0 : Int32)) (pc := 45) dL_plans_45 (by decide) ?_
            refine J_topi (y := v29) (by rw [e30, if_pos c31]) ?_
            exact hJ
          · refine J_iconst (v := (1 : Int32)) (pc := 41) dL_plans_41 (by decide) ?_
            refine J_goto (pc := 42) (tgt := 46) dL_plans_42 (by decide) ?_
            refine J_topi (y := v29) (by rw [e30, if_neg c31]) ?_
            exact hJ

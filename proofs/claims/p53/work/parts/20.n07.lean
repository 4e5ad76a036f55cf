/-! ===== the law's beginning ===== -/
theorem wi_33 : Cond.classLink RL 8 RX3 ∈ SWL := SWL_mem 33 (by decide +kernel) rfl
theorem wi_34 : Cond.instantiable RX3 7 ∈ SWL := SWL_mem 34 (by decide +kernel) rfl
theorem wi_35 : Cond.methodLink RL 246 yX3_init ∈ SWL := SWL_mem 35 (by decide +kernel) rfl
set_option maxRecDepth 20000 in
theorem lw_first {κ : Kx} {E : En} {Q : State → Prop} {g : Nat → va_E} {S : Nat} (kk : JN κ E mi_L_law Q 53 29804 [(0, .ref S), (1, .ref 0)] (jc E W0) 53 8 []) : JN κ E mi_L_law Q 0 0 [(0, .ref S)] g 0 0 [] := by
  refine N_new (pc := 0) (ci := 3) (C := RX3) (T := TX3) (N := 7) (fs := [.null, .null, .null, .null, .null, .int 0, .int 0]) lay_X3 tyX3 tyX3_ok wi_33 wi_34 wi_20 rfl dv_X3 (Nat.le_of_ble_eq_true rfl) (Nat.le_of_ble_eq_true rfl) (by decide) dL_law_0 ?_
  refine N_dup (pc := 3) dL_law_3 rfl ?_
  refine N_initL (pc := 4) (gi := mi_X3_init) mn_X3 wi_35 (con_X3_0 gs_s) (by decide) (by decide) rfl ⟨⟨(Nat.le_of_ble_eq_true rfl), (Nat.le_of_ble_eq_true rfl)⟩, (Nat.le_of_ble_eq_true rfl), (Nat.le_of_ble_eq_true rfl)⟩ (Nat.le_of_ble_eq_true rfl) dL_law_4 ?_
  refine N_astore_n (pc := 7) (L' := [(0, .ref S), (1, .ref 0)]) dL_law_7 rfl (by decide) [1, 0] rfl ?_
  exact kk
/-- where the second object lies, while it is made -/
def e9 (E : En2) : En := (E.1.1 + 53, E.1.2.1, E.1.2.2.1, 0, E.1.2.2.2.2)
theorem lw_lv {E : En2} : lvm (e0 E) [(0, .ref (64 + E.2.1)), (1, .ref 0)] = lvm2 E [(0, .ref 2), (1, .ref 0)] := by
  have h1 : adr (e0 E) (64 + E.2.1) = E.2.1 := by
    unfold adr
    rw [if_neg (by omega)]
    omega
  show [(0, Value.ref (adr (e0 E) (64 + E.2.1))), (1, Value.ref (E.1.1 + 0))] = [(0, Value.ref E.2.1), (1, Value.ref E.1.1)]
  rw [h1, Nat.add_zero]
theorem mk_e {E : En2} : mk (eo E) W0 = mkP (e0 E) (jc (e0 E) W0) 53 := rfl
theorem mk_e9 {E : En2} : mk (ep E) W0 = mkP (e9 E) (jc (e9 E) W0) 53 := rfl
set_option maxRecDepth 20000 in
theorem lw_second {κ : Kx} {E : En2} {Q : State → Prop} (hCx : CxN κ (e0 E) mi_L_law → Cx2 κ E mi_L_law) (kk : K κ E mi_L_law Q 106 59608 [(0, .ref 2), (1, .ref 0)] (W0, W0) 15 [.ref 1]) : JN κ (e0 E) mi_L_law Q 53 29804 [(0, .ref (64 + E.2.1)), (1, .ref 0)] (jc (e0 E) W0) 53 8 [] := by
  intro hC hz H locs ls hP hS hl
  obtain ⟨hx, hb, hml, hrt, hown, hts, hlk, hR, hSx, hE, hnm⟩ := id hC
  refine va_new (ci := 3) (fs := [.null, .null, .null, .null, .null, .int 0, .int 0]) hx hb hts lay_X3 tyX3 tyX3_ok hown (hts _ wi_33) (hts _ wi_34) (hts _ wi_20) hSx.1 hP (mkP_D (Nat.le_refl _)) hS (Ar_z hE.1) rfl dv_X3 (by rw [hR]; exact (Nat.le_of_ble_eq_true rfl)) (by rw [hR]; exact (Nat.le_of_ble_eq_true rfl)) dL_law_8 (fun q H1 hP1 hD1 hS1 => ?_)
  refine kW_sz (κ := κ) (fun hsz => ?_)
  have hz' : κ.2.2.2.2.1.heap.size + 53 = E.1.1 + 53 := hz
  have e1 : (mkP (e0 E) (jc (e0 E) W0) 53 ++ [(q, (Sum.inr (3, [.null, .null, .null, .null, .null, .int 0, .int 0]) : va_E))])[53]? = some (q, (Sum.inr (3, [.null, .null, .null, .null, .null, .int 0, .int 0]) : va_E)) := by
    rw [List.getElem?_append_right (by rw [mkP_len]; exact Nat.le_refl _), mkP_len]; rfl
  have hq1 : q < H1.size := (hP1 53 _ e1).lt
  have hq2 : E.1.1 ≤ q := (hD1.2 53 _ e1).1
  have hq : q = E.1.1 + 53 := by
    refine Classical.byContradiction fun hne => ?_
    have hi : q - E.1.1 < 53 := by omega
    have e2 : (mkP (e0 E) (jc (e0 E) W0) 53 ++ [(q, (Sum.inr (3, [.null, .null, .null, .null, .null, .int 0, .int 0]) : va_E))])[q - E.1.1]? = some (adr (e0 E) (q - E.1.1), jc (e0 E) W0 (q - E.1.1)) := by
      rw [List.getElem?_append_left (by rw [mkP_len]; exact hi), mkP_get hi]
    have := hD1.1 _ _ _ _ e2 e1 (show adr (e0 E) (q - E.1.1) = q by rw [adr_lt hi]; show E.1.1 + (q - E.1.1) = q; omega)
    omega
  subst hq
  have hz2 : H1.size = E.1.1 + 54 := by omega
  refine lv_dup hx hb dL_law_11 rfl ?_
  have hPa : va_P E.1.2.1 vwCl (mkP (e0 E) (jc (e0 E) W0) 53) H1 := fun k p hk => hP1 k p (by rw [List.getElem?_append_left (by rw [mkP_len]; exact (mkP_at hk).1)]; exact hk)
  have hPb : va_P E.1.2.1 vwCl (mkP (e9 E) (fun _ => (Sum.inr (3, [.null, .null, .null, .null, .null, .int 0, .int 0]) : va_E)) 1) H1 := fun k p hk => by
    obtain ⟨h1, rfl⟩ := mkP_at hk
    obtain rfl : k = 0 := by omega
    exact hP1 53 _ e1
  have hA9 : ∀ q : Nat, Ar (e9 E) q → Ar (e0 E) q := fun q h => by
    have h1 : E.1.1 + 53 ≤ q := h.1
    exact ⟨show E.1.1 ≤ q by omega, Or.inr (Nat.zero_le _)⟩
  have hrun := va_runI (p := κ.1) (l := κ.2.1) (e := κ.2.2.1) (R := κ.2.2.2.1) (s := κ.2.2.2.2.1) (m := κ.2.2.2.2.2.1) (args := κ.2.2.2.2.2.2.1) (below := κ.2.2.2.2.2.2.2.1) (meth := κ.2.2.2.2.2.2.2.2.1) (c := κ.2.2.2.2.2.2.2.2.2) (H := H1) (locs := locs) (cells := 53 + 1) (slots := 29804 + 7)
    (As := []) (rest := [.ref (E.1.1 + 53)]) (b := E.1.1 + 53) (g := F0 κ.2.2.2.2.2.1 12 ls [.ref (E.1.1 + 53), .ref (E.1.1 + 53)]) (Ts := SWL) (own := mi_L_law.1.cls) (nL := mi_L_law.2.2.1) (index := 246) (maxL := mi_X3_init.2.2.1) (bytes := mi_X3_init.2.1)
    ⟨hx, hb, hml, hown, hts⟩ (con_X3_0 (E := e9 E) (g := fun _ => (Sum.inr (3, [.null, .null, .null, .null, .null, .int 0, .int 0]) : va_E)) rfl κ.2.1) ⟨⟨rfl, rfl, by rw [hR]; exact (Nat.le_of_ble_eq_true rfl), by rw [hR]; exact (Nat.le_of_ble_eq_true rfl), wsf_warm hts (by rw [mn_X3.1]; exact mn_X3.2.1), by rw [← mn_X3.1]; exact List.mem_cons_self, hts _ mn_X3.2.1, hts _ mn_X3.2.2.1, mn_X3.2.2.2.1, np_of mn_X3.2.2.2.2.1, hts _ wi_35⟩, mn_X3.2.2.2.2.2.2, hts _ mn_X3.2.2.2.2.2.1⟩
    ⟨FB_PI, fun U hU hW => ⟨rfl, by rw [hU]; exact hPb, (hSx.to (fun _ _ h => h) hS1 hU hW).narrow rfl rfl hA9, ⟨by rw [hU, hz2]; rfl, rfl⟩, va_AO.moved hW.alike hE.2⟩⟩ rfl rfl hl.1 rfl (lv_room (Nat.le_of_ble_eq_true rfl)) dL_law_12 ⟨by rw [hR]; exact (Nat.le_of_ble_eq_true rfl), by rw [hR]; exact (Nat.le_of_ble_eq_true rfl)⟩
  refine va_callv hrun hS1 (fun q _ h => hA9 q h) (fun q h => hA9 q h) (fun u U H2 locs2 hU _ _ hB _ hkp hS2 => ?_)
  have hP2 : P2 E (W0, W0) H2 := by
    refine ⟨?_, ?_⟩
    · rw [mk_e]
      exact va_P.kept hPa fun k p hk => hkp _ (vx_lt hPa hk) (fun z => by
        obtain ⟨h1, rfl⟩ := mkP_at hk
        have z1 : E.1.1 + 53 ≤ adr (e0 E) k := z.1
        rw [adr_lt h1] at z1
        have z2 : E.1.1 + 53 ≤ E.1.1 + k := z1
        omega)
    · rw [mk_e9, ← hU]
      exact hB
  rw [lw_lv] at hl
  exact kk (hCx hC) H2 locs2 ls hP2 ⟨hS2.1, fun q h1 h2 => hS2.2.1 q h1 (fun z => h2 (Ar2_0.mpr z)), fun q hq => Ar2_0.mpr (hS2.2.2 q hq)⟩ hl
set_option maxRecDepth 20000 in
/-- behind both objects -/
theorem lw_rest {κ : Kx} {E : En2} {Q : State → Prop} {c0 : Int32} {S : Wst} {t : Nat} (hn : E.2.2.1 ≤ 260) (hc : F_L_cell E.2.2.2 E.2.2.1 0 = some c0) (ha : (12 : Int32) + (c0 - c0 / (21 : Int32) * (21 : Int32)) = iI (t : Int)) (ht : t ≤ 32) (hW : WI S) (hL : LW S) (hC0 : CI S W0) (hend : ∀ M : Wd2, K κ E mi_L_law Q 10600 122572 [(4, .int 1)] M 191 []) : K κ E mi_L_law Q 106 59608 [(0, .ref 2), (1, .ref 0)] (W0, W0) 15 [.ref 1] := by
  refine K_astore_n (pc := 15) (L' := [(0, .ref 2), (1, .ref 0), (2, .ref 1)]) dL_law_15 rfl (by decide) [1, 2, 0] rfl ?_
  refine K_bipush (v := (12 : Int32)) (pc := 16) dL_law_16 (by decide) ?_
  refine K_aload_n (pc := 18) dL_law_18 rfl 0 rfl ?_
  refine K_iconst (v := (0 : Int32)) (pc := 19) dL_law_19 (by decide) ?_
  refine K_callS (g := mi_L_cell) (pc := 20) [.ref 2, .int 0] [.int 12] ms_L_cell w_419 (k_L_cell 0 _ hc) rfl rfl ⟨⟨(Nat.le_of_ble_eq_true rfl), (Nat.le_of_ble_eq_true rfl)⟩, (Nat.le_of_ble_eq_true rfl), (Nat.le_of_ble_eq_true rfl)⟩ (Nat.le_of_ble_eq_true rfl) dL_law_20 (Kk_v rfl rfl fun hok => ?_)
  refine K_bipush (v := (21 : Int32)) (pc := 23) dL_law_23 (by decide) ?_
  refine K_irem (pc := 25) dL_law_25 (by decide) ?_
  refine K_iadd (pc := 26) dL_law_26 ?_
  rw [ha]
  refine K_istore_n (pc := 27) (L' := [(0, .ref 2), (1, .ref 0), (2, .ref 1), (3, .int (iI (t : Int)))]) dL_law_27 rfl (Nat.le_of_ble_eq_true rfl) [1, 2, 3, 0] rfl ?_
  refine K_iconst (v := (1 : Int32)) (pc := 28) dL_law_28 (by decide) ?_
  refine K_istore (pc := 29) (L' := [(0, .ref 2), (1, .ref 0), (2, .ref 1), (3, .int (iI (t : Int))), (4, .int 1)]) dL_law_29 (Nat.le_of_ble_eq_true rfl) [1, 2, 3, 4, 0] rfl ?_
  refine K_iconst (v := (0 : Int32)) (pc := 31) dL_law_31 (by decide) ?_
  refine K_istore (pc := 32) (L' := [(0, .ref 2), (1, .ref 0), (2, .ref 1), (3, .int (iI (t : Int))), (4, .int 1), (5, .int 0)]) dL_law_32 (Nat.le_of_ble_eq_true rfl) [1, 2, 3, 4, 5, 0] rfl ?_
  have hF : F_L_law_L34 E.2.2.2 E.2.2.1 (iI (t : Int)) (fun (v : Int32) (_ : Wd2) => some v) (32 - t + 1 + t) 1 (iI ((0 : Nat) : Int)) (W0, W0) = some 1 := law_loop hn ht (fun _ => rfl) t (32 - t) 0 S (W0, W0) (Nat.zero_add t) hW hL hC0 hC0
  rw [show 32 - t + 1 + t = 33 by omega] at hF
  exact kL_L_law_L34 (iI (t : Int)) (fun (v : Int32) (_ : Wd2) => some v) (fun x4 M h => by cases h; exact hend M) 33 106 59608 1 0 (W0, W0) (by omega) (by omega) hF

/-! ===== calls that look ===== -/
theorem look {α : Type} {S : Wst} {M : Wd} {FC FM : Wd → Option (α × Wd)} {v : α} (hC : CI S M) (hM : MI' S M) (hW : WI S) (h1 : FC M = some (v, M)) (h2 : ∀ N, MI' S N → FM N = some (v, upI N 53 0 (0 : Int32))) : ∃ v M1 M2, FC M = some (v, M1) ∧ FM M1 = some (v, M2) ∧ Inv M2 :=
  two_v hM hW h1 hC (frCl.rf M) (fun N hN => ⟨_, h2 N hN, hN.ref, mo_ref⟩)
theorem lookX {S : Wst} {M : Wd} {FL FM : Wd → Option (Int32 × Wd)} {v : Int32} (hC : CI S M) (hM : MI' S M) (hW : WI S) (h1 : FL M = some (iI 0, upL M 62 0 v.toInt64)) (h2 : ∀ N, MI' S N → FM N = some (v, upI N 53 0 (iI 0))) : ∃ k M1 b M2, FL M = some (k, M1) ∧ FM M1 = some (b, M2) ∧ M2.1 53 0 = k ∧ (k = 0 → M2.2.1 62 0 = b.toInt64) ∧ Inv M2 :=
  two_ok hM hW h1 hC (frCl.rf M) (fun N hN => ⟨_, h2 N hN, hN.ref, mo_ref, by rw [upI_at, if_pos rfl]⟩)
theorem failX {S : Wst} {M : Wd} {FL FM : Wd → Option (Int32 × Wd)} {j : Nat} (hj : 0 < j) (hj2 : j < 100) (hC : CI S M) (hM : MI' S M) (hW : WI S) (h1 : FL M = some (iI (j : Int), M)) (h2 : ∀ N, MI' S N → FM N = some (0, upI N 53 0 (iI (j : Int)))) : ∃ k M1 b M2, FL M = some (k, M1) ∧ FM M1 = some (b, M2) ∧ M2.1 53 0 = k ∧ (k = 0 → M2.2.1 62 0 = b.toInt64) ∧ Inv M2 :=
  two_ex hM hW (fun q => by rw [iL_0, iI_eq (by omega) (by omega) (by omega) (by omega)] at q; omega) h1 hC (frCl.rf M) (fun N hN => ⟨_, _, h2 N hN, hN.ref, mo_ref, by rw [upI_at, if_pos rfl]⟩)
theorem failB {S : Wst} {M : Wd} {FL FM : Wd → Option (Int32 × Wd)} {j : Nat} (hj : 0 < j) (hj2 : j < 100) (hC : CI S M) (hM : MI' S M) (hW : WI S) (h1 : FL M = some (iI (j : Int), M)) (h2 : ∀ N, MI' S N → FM N = some (0, upI N 53 0 (iI (j : Int)))) : ∃ k M1 b M2, FL M = some (k, M1) ∧ FM M1 = some (b, M2) ∧ M2.1 53 0 = k ∧ (k = 0 → M2.2.1 62 0 = if b = 0 then (0 : Int64) else (1 : Int64)) ∧ isB b ∧ Inv M2 :=
  two_bex hM hW (fun q => by rw [iL_0, iI_eq (by omega) (by omega) (by omega) (by omega)] at q; omega) h1 hC (frCl.rf M) (fun N hN => ⟨_, _, h2 N hN, Or.inl rfl, hN.ref, mo_ref, by rw [upI_at, if_pos rfl]⟩)
theorem lookB {S : Wst} {M : Wd} {FL FM : Wd → Option (Int32 × Wd)} {v : Int32} (hv : isB v) (hC : CI S M) (hM : MI' S M) (hW : WI S) (h1 : FL M = some (iI 0, upL M 62 0 (if v = 0 then (0 : Int64) else (1 : Int64)))) (h2 : ∀ N, MI' S N → FM N = some (v, upI N 53 0 (iI 0))) : ∃ k M1 b M2, FL M = some (k, M1) ∧ FM M1 = some (b, M2) ∧ M2.1 53 0 = k ∧ (k = 0 → M2.2.1 62 0 = if b = 0 then (0 : Int64) else (1 : Int64)) ∧ isB b ∧ Inv M2 :=
  two_bok hv hM hW h1 hC (frCl.rf M) (fun N hN => ⟨_, h2 N hN, hN.ref, mo_ref, by rw [upI_at, if_pos rfl]⟩)
theorem told_e {v : Int32} {M : Wd} : F_X4_told v M = some (v, upI M 53 0 (0 : Int32)) := rfl
section NC
variable {n w k : Nat} {z : Int} {L P G lc : Nat → Nat} {lb : Nat → Int} {N : Wd}
theorem noCar_y (h : PkM 55 0 n w k z L P G lc lb N) (hW : PkW n w k z L P G lc lb) {c : Int} (c0 : 0 ≤ c) (c1 : c < n) : F_X4_noCar (iI c) N = some ((0 : Int32), upI N 53 0 (iI 0)) := by
  have hn := hW.n6
  unfold F_X4_noCar
  rw [isCar_I h hW (by omega) (by omega), i10_eq0, if_pos ⟨c0, c1⟩, bnd_v]
  rfl
theorem noCar_n (h : PkM 55 0 n w k z L P G lc lb N) (hW : PkW n w k z L P G lc lb) {c : Int} (c1 : -2147483648 ≤ c) (c2 : c < 2147483648) (hc : ¬ (0 ≤ c ∧ c < n)) : F_X4_noCar (iI c) N = some ((1 : Int32), upI N 53 0 (iI 1)) := by
  unfold F_X4_noCar
  rw [isCar_I h hW c1 c2, i10_eq0, if_neg hc, bnd_v]
  rfl
theorem noSlide_y (h : PkM 55 0 n w k z L P G lc lb N) (hW : PkW n w k z L P G lc lb) {c : Int} (c0 : 0 ≤ c) (c1 : c < k) : F_X4_noSlide (iI c) N = some ((0 : Int32), upI N 53 0 (iI 0)) := by
  have hk := hW.k60
  unfold F_X4_noSlide
  rw [h.vk, iL_1, iI_sub, in_I (b := 0) (c := (k : Int) - 1) (by omega) (by omega) rfl (iI_long (by omega) (by omega)), i10_eq0, if_pos (by omega), bnd_v]
  rfl
theorem noSlide_n (h : PkM 55 0 n w k z L P G lc lb N) (hW : PkW n w k z L P G lc lb) {c : Int} (c1 : -2147483648 ≤ c) (c2 : c < 2147483648) (hc : ¬ (0 ≤ c ∧ c < k)) : F_X4_noSlide (iI c) N = some ((1 : Int32), upI N 53 0 (iI 1)) := by
  have hk := hW.k60
  unfold F_X4_noSlide
  rw [h.vk, iL_1, iI_sub, in_I (b := 0) (c := (k : Int) - 1) c1 c2 rfl (iI_long (by omega) (by omega)), i10_eq0, if_neg (by omega), bnd_v]
  rfl
theorem hasSlide_I {M : Wd} (h : PkC 1 n w k z L P G lc lb M) (hW : PkW n w k z L P G lc lb) {c : Int} (c1 : -2147483648 ≤ c) (c2 : c < 2147483648) : F_X1_hasSlide (iI c) M = if 0 ≤ c ∧ c < (k : Int) then iI 1 else iI 0 := by
  have hk := hW.k60
  unfold F_X1_hasSlide
  rw [h.vk, iL_0, show (60 : Int32) = iI 60 from rfl, iL_1, if_lt (by omega) (by omega) (by omega) (by omega), if_le (by omega) (by omega) (by omega) (by omega), if_le (by omega) (by omega) (by omega) (by omega)]
  by_cases e : 0 ≤ c ∧ c < (k : Int)
  · rw [if_neg (by omega), if_neg (by omega), if_neg (by omega), if_pos e]
  · rw [if_neg e]
    by_cases e1 : c < 0
    · rw [if_pos e1]
    · rw [if_neg e1, if_pos (by omega)]
end NC
theorem t_savedStates : TwoV (fun M => some (F_X3_savedStates M, M)) F_X4_savedStates := by
  rintro M ⟨⟨⟨n, w, k, z, L, P, G, lc, lb⟩, kp, kf, c, sv, tl, tc⟩, hW, hC, hM⟩
  have h : PkC 1 n w k z L P G lc lb M := hC.1
  have hw : PkW n w k z L P G lc lb := hW.1
  have hn := hw.n6
  refine look (FC := fun M => some (F_X3_savedStates M, M)) (FM := F_X4_savedStates) hC hM hW (v := iI (c : Int)) ?_ (fun N hN => ?_)
  · show some (M.1 0 5, M) = _
    rw [hC.2.2.2.1]
  · have hm : PkM 55 0 n w k z L P G lc lb N := hN.1
    have h5 : N.1 53 5 = iI (c : Int) := hN.2.2.2.1
    unfold F_X4_savedStates
    rw [h5]
theorem t_cars : TwoV (fun M => some (F_X3_cars M, M)) F_X4_cars := by
  rintro M ⟨⟨⟨n, w, k, z, L, P, G, lc, lb⟩, kp, kf, c, sv, tl, tc⟩, hW, hC, hM⟩
  have h : PkC 1 n w k z L P G lc lb M := hC.1
  have hw : PkW n w k z L P G lc lb := hW.1
  have hn := hw.n6
  refine look (FC := fun M => some (F_X3_cars M, M)) (FM := F_X4_cars) hC hM hW (v := iI (n : Int)) ?_ (fun N hN => ?_)
  · show some (M.1 1 5, M) = _
    rw [h.vn]
  · have hm : PkM 55 0 n w k z L P G lc lb N := hN.1
    unfold F_X4_cars
    rw [hm.vn, told_e, ob2_s]
theorem t_walls : TwoV (fun M => some (F_X3_walls M, M)) F_X4_walls := by
  rintro M ⟨⟨⟨n, w, k, z, L, P, G, lc, lb⟩, kp, kf, c, sv, tl, tc⟩, hW, hC, hM⟩
  have h : PkC 1 n w k z L P G lc lb M := hC.1
  have hw : PkW n w k z L P G lc lb := hW.1
  have hn := hw.n6
  refine look (FC := fun M => some (F_X3_walls M, M)) (FM := F_X4_walls) hC hM hW (v := iI ((pc 25 w : Nat) : Int)) ?_ (fun N hN => ?_)
  · unfold F_X3_walls
    rw [h.vw, bitCount_I hw.2.1]
  · have hm : PkM 55 0 n w k z L P G lc lb N := hN.1
    unfold F_X4_walls
    rw [hm.vw, bits_I hw.2.1, ob_s, told_e, ob2_s]
theorem t_freeCells : TwoV (fun M => obind (F_X3_freeCells M) fun v => some (v, M)) F_X4_freeCells := by
  rintro M ⟨⟨⟨n, w, k, z, L, P, G, lc, lb⟩, kp, kf, c, sv, tl, tc⟩, hW, hC, hM⟩
  have h : PkC 1 n w k z L P G lc lb M := hC.1
  have hw : PkW n w k z L P G lc lb := hW.1
  have hn := hw.n6
  refine look (FC := fun M => obind (F_X3_freeCells M) fun v => some (v, M)) (FM := F_X4_freeCells) hC hM hW (v := iI (25 - ((pc 25 (ocm w L G P n) : Nat) : Int))) ?_ (fun N hN => ?_)
  · unfold F_X3_freeCells
    rw [taken_I h hw, ob_s, bitCount_I hw.oc, show (25 : Int32) = iI 25 from rfl, iI_sub, ob_s]
  · have hm : PkM 55 0 n w k z L P G lc lb N := hN.1
    unfold F_X4_freeCells
    rw [occ_I hm hw, ob_s, bits_I hw.oc, ob_s, show (25 : Int32) = iI 25 from rfl, iI_sub, told_e, ob2_s]
theorem t_isOut : TwoV (fun M => some (F_X3_isOut M, M)) F_X4_isOut := by
  rintro M ⟨⟨⟨n, w, k, z, L, P, G, lc, lb⟩, kp, kf, c, sv, tl, tc⟩, hW, hC, hM⟩
  have h : PkC 1 n w k z L P G lc lb M := hC.1
  have hw : PkW n w k z L P G lc lb := hW.1
  have hn := hw.n6
  refine look (FC := fun M => some (F_X3_isOut M, M)) (FM := F_X4_isOut) hC hM hW (v := if isR n P G = true then iI 1 else iI 0) ?_ (fun N hN => ?_)
  · unfold F_X3_isOut
    rw [redOut_I h hw]
  · have hm : PkM 55 0 n w k z L P G lc lb N := hN.1
    unfold F_X4_isOut
    rw [misFree_I (M := upI N 53 0 (0 : Int32)) (hN.ref (v := (0 : Int32))).1 hw]
theorem t_possibleSlides : TwoV (fun M => obind (F_X3_possibleSlides M) fun v => some (v, M)) F_X4_possibleSlides := by
  rintro M ⟨⟨⟨n, w, k, z, L, P, G, lc, lb⟩, kp, kf, c, sv, tl, tc⟩, hW, hC, hM⟩
  have h : PkC 1 n w k z L P G lc lb M := hC.1
  have hw : PkW n w k z L P G lc lb := hW.1
  have hn := hw.n6
  refine look (FC := fun M => obind (F_X3_possibleSlides M) fun v => some (v, M)) (FM := F_X4_possibleSlides) hC hM hW (v := iI (allR w L G P n n : Nat)) ?_ (fun N hN => ?_)
  · rw [poss_I h hw, ob_s]
  · have hm : PkM 55 0 n w k z L P G lc lb N := hN.1
    unfold F_X4_possibleSlides
    rw [mposs_I hm hw, ob_s, told_e, ob2_s]
theorem t_logged : TwoV (fun M => some (F_X3_logged M, M)) F_X4_logged := by
  rintro M ⟨⟨⟨n, w, k, z, L, P, G, lc, lb⟩, kp, kf, c, sv, tl, tc⟩, hW, hC, hM⟩
  have h : PkC 1 n w k z L P G lc lb M := hC.1
  have hw : PkW n w k z L P G lc lb := hW.1
  have hn := hw.n6
  refine look (FC := fun M => some (F_X3_logged M, M)) (FM := F_X4_logged) hC hM hW (v := iI (k : Int)) ?_ (fun N hN => ?_)
  · show some (M.1 1 7, M) = _
    rw [h.vk]
  · have hm : PkM 55 0 n w k z L P G lc lb N := hN.1
    unfold F_X4_logged
    rw [hm.vk, told_e, ob2_s]
theorem t_fuel : TwoV (fun M => obind (F_X3_fuel M) fun v => some (v, M)) F_X4_fuel := by
  rintro M ⟨⟨⟨n, w, k, z, L, P, G, lc, lb⟩, kp, kf, c, sv, tl, tc⟩, hW, hC, hM⟩
  have h : PkC 1 n w k z L P G lc lb M := hC.1
  have hw : PkW n w k z L P G lc lb := hW.1
  have hn := hw.n6
  refine look (FC := fun M => obind (F_X3_fuel M) fun v => some (v, M)) (FM := F_X4_fuel) hC hM hW (v := iI (fuS G lc lb k : Nat)) ?_ (fun N hN => ?_)
  · unfold F_X3_fuel
    rw [fuel_I h hw, ob_s, ob_s]
  · have hm : PkM 55 0 n w k z L P G lc lb N := hN.1
    unfold F_X4_fuel
    rw [burnt_I hm hw, ob_s, told_e, ob2_s]
theorem t_fuelByCars : TwoV (fun M => obind (F_X3_fuelByCars M) fun v => some (v, M)) F_X4_fuelByCars := by
  rintro M ⟨⟨⟨n, w, k, z, L, P, G, lc, lb⟩, kp, kf, c, sv, tl, tc⟩, hW, hC, hM⟩
  have h : PkC 1 n w k z L P G lc lb M := hC.1
  have hw : PkW n w k z L P G lc lb := hW.1
  have hn := hw.n6
  refine look (FC := fun M => obind (F_X3_fuelByCars M) fun v => some (v, M)) (FM := F_X4_fuelByCars) hC hM hW (v := iI (fuS G lc lb k : Nat)) ?_ (fun N hN => ?_)
  · unfold F_X3_fuelByCars
    rw [fuelC_I h hw, ob_s, ob_s]
  · have hm : PkM 55 0 n w k z L P G lc lb N := hN.1
    unfold F_X4_fuelByCars
    rw [burnt_I hm hw, ob_s, told_e, ob2_s]
theorem t_hasStopped : TwoV (fun M => obind (F_X3_hasStopped M) fun v => some (v, M)) F_X4_hasStopped := by
  rintro M ⟨⟨⟨n, w, k, z, L, P, G, lc, lb⟩, kp, kf, c, sv, tl, tc⟩, hW, hC, hM⟩
  have h : PkC 1 n w k z L P G lc lb M := hC.1
  have hw : PkW n w k z L P G lc lb := hW.1
  have hn := hw.n6
  refine look (FC := fun M => obind (F_X3_hasStopped M) fun v => some (v, M)) (FM := F_X4_hasStopped) hC hM hW (v := if z = -1 then iI 0 else iI 1) ?_ (fun N hN => ?_)
  · have h8 : M.1 1 8 = if z = -1 then iI 0 else iI 1 := h.2.2.2.1
    unfold F_X3_hasStopped
    rw [h8]
    by_cases e : z = -1
    · rw [if_pos e]; rfl
    · rw [if_neg e]; rfl
  · have hm : PkM 55 0 n w k z L P G lc lb N := hN.1
    have hz := hw.2.2.2.2.2.1
    unfold F_X4_hasStopped
    rw [hm.vz, iL_m1, if_eq (by omega) (by omega) (by omega) (by omega)]
    by_cases e : z = -1
    · rw [if_pos e, if_pos e]; rfl
    · rw [if_neg e, if_neg e]; rfl
theorem t_laneOf (a : Int32) : TwoX (F_L_laneOf_0_62 a) (F_X4_laneOf a) := by
  rintro M ⟨⟨⟨n, w, k, z, L, P, G, lc, lb⟩, kp, kf, c, sv, tl, tc⟩, hW, hC, hM⟩
  have h : PkC 1 n w k z L P G lc lb M := hC.1
  have hw : PkW n w k z L P G lc lb := hW.1
  have hn := hw.n6
  obtain ⟨x, x1, x2, rfl⟩ := iI_ex a
  by_cases e : 0 ≤ x ∧ x < (n : Int)
  · obtain ⟨i, rfl⟩ : ∃ i : Nat, x = i := ⟨x.toNat, by omega⟩
    refine lookX hC hM hW (v := iI (L i : Int)) ?_ (fun N hN => ?_)
    · unfold F_L_laneOf_0_62 F_X3_laneOf
      rw [hasCar_I h hw x1 x2, i10_eq0, if_pos e, ldi_N (by omega) (by omega), h.vL (by omega)]
      rfl
    · have hm : PkM 55 0 n w k z L P G lc lb N := hN.1
      unfold F_X4_laneOf
      rw [noCar_y hm hw e.1 e.2, ob2_s, if_pos rfl, a1_I, ldi_N (by omega) (by omega), upI_of (by decide), hm.vL (by omega)]
  · refine failX (j := 1) (by decide) (by decide) hC hM hW ?_ (fun N hN => ?_)
    · unfold F_L_laneOf_0_62 F_X3_laneOf
      rw [hasCar_I h hw x1 x2, i10_eq0, if_neg e]
      rfl
    · have hm : PkM 55 0 n w k z L P G lc lb N := hN.1
      unfold F_X4_laneOf
      rw [noCar_n hm hw x1 x2 e, ob2_s, if_neg (by decide)]
      rfl
theorem t_placeOf (a : Int32) : TwoX (F_L_placeOf_0_62 a) (F_X4_placeOf a) := by
  rintro M ⟨⟨⟨n, w, k, z, L, P, G, lc, lb⟩, kp, kf, c, sv, tl, tc⟩, hW, hC, hM⟩
  have h : PkC 1 n w k z L P G lc lb M := hC.1
  have hw : PkW n w k z L P G lc lb := hW.1
  have hn := hw.n6
  obtain ⟨x, x1, x2, rfl⟩ := iI_ex a
  by_cases e : 0 ≤ x ∧ x < (n : Int)
  · obtain ⟨i, rfl⟩ : ∃ i : Nat, x = i := ⟨x.toNat, by omega⟩
    refine lookX hC hM hW (v := iI (P i : Int)) ?_ (fun N hN => ?_)
    · unfold F_L_placeOf_0_62 F_X3_placeOf
      rw [hasCar_I h hw x1 x2, i10_eq0, if_pos e, ldi_N (by omega) (by omega), h.vP (by omega)]
      rfl
    · have hm : PkM 55 0 n w k z L P G lc lb N := hN.1
      unfold F_X4_placeOf
      rw [noCar_y hm hw e.1 e.2, ob2_s, if_pos rfl, a7_I, ldi_N (by omega) (by omega), upI_of (by decide), hm.vP (by omega)]
  · refine failX (j := 1) (by decide) (by decide) hC hM hW ?_ (fun N hN => ?_)
    · unfold F_L_placeOf_0_62 F_X3_placeOf
      rw [hasCar_I h hw x1 x2, i10_eq0, if_neg e]
      rfl
    · have hm : PkM 55 0 n w k z L P G lc lb N := hN.1
      unfold F_X4_placeOf
      rw [noCar_n hm hw x1 x2 e, ob2_s, if_neg (by decide)]
      rfl
theorem t_lengthOf (a : Int32) : TwoX (F_L_lengthOf_0_62 a) (F_X4_lengthOf a) := by
  rintro M ⟨⟨⟨n, w, k, z, L, P, G, lc, lb⟩, kp, kf, c, sv, tl, tc⟩, hW, hC, hM⟩
  have h : PkC 1 n w k z L P G lc lb M := hC.1
  have hw : PkW n w k z L P G lc lb := hW.1
  have hn := hw.n6
  obtain ⟨x, x1, x2, rfl⟩ := iI_ex a
  by_cases e : 0 ≤ x ∧ x < (n : Int)
  · obtain ⟨i, rfl⟩ : ∃ i : Nat, x = i := ⟨x.toNat, by omega⟩
    refine lookX hC hM hW (v := iI (G i : Int)) ?_ (fun N hN => ?_)
    · unfold F_L_lengthOf_0_62 F_X3_lengthOf
      rw [hasCar_I h hw x1 x2, i10_eq0, if_pos e, ldi_N (by omega) (by omega), h.vG (by omega)]
      rfl
    · have hm : PkM 55 0 n w k z L P G lc lb N := hN.1
      unfold F_X4_lengthOf
      rw [noCar_y hm hw e.1 e.2, ob2_s, if_pos rfl, a13_I, ldi_N (by omega) (by omega), upI_of (by decide), hm.vG (by omega)]
  · refine failX (j := 1) (by decide) (by decide) hC hM hW ?_ (fun N hN => ?_)
    · unfold F_L_lengthOf_0_62 F_X3_lengthOf
      rw [hasCar_I h hw x1 x2, i10_eq0, if_neg e]
      rfl
    · have hm : PkM 55 0 n w k z L P G lc lb N := hN.1
      unfold F_X4_lengthOf
      rw [noCar_n hm hw x1 x2 e, ob2_s, if_neg (by decide)]
      rfl
theorem t_carOn (a : Int32) : TwoX (F_L_carOn_0_62 a) (F_X4_carOn a) := by
  rintro M ⟨⟨⟨n, w, k, z, L, P, G, lc, lb⟩, kp, kf, c, sv, tl, tc⟩, hW, hC, hM⟩
  have h : PkC 1 n w k z L P G lc lb M := hC.1
  have hw : PkW n w k z L P G lc lb := hW.1
  have hn := hw.n6
  obtain ⟨x, x1, x2, rfl⟩ := iI_ex a
  by_cases e : 0 ≤ x ∧ x < 25
  · obtain ⟨i, rfl⟩ : ∃ i : Nat, x = i := ⟨x.toNat, by omega⟩
    refine lookX hC hM hW (v := iI (fcar L P G i n 0)) ?_ (fun N hN => ?_)
    · unfold F_L_carOn_0_62 F_X3_carOn
      rw [isCell_I x1 x2, i10_eq0, if_pos e, carAt_I h hw (by omega)]
      rfl
    · have hm : PkM 55 0 n w k z L P G lc lb (upI N 53 0 (iI 0)) := (hN.ref (v := iI 0)).1
      unfold F_X4_carOn
      rw [misCell_I x1 x2, i10_eq0, if_pos e, bnd_v]
      show obind2 (F_X4_refused (iI 0) N) _ = _
      rw [refused_0, ob2_s, if_pos rfl, mcarAt_I hm hw (by omega), ob_s]
  · refine failX (j := 1) (by decide) (by decide) hC hM hW ?_ (fun N hN => ?_)
    · unfold F_L_carOn_0_62 F_X3_carOn
      rw [isCell_I x1 x2, i10_eq0, if_neg e]
      rfl
    · unfold F_X4_carOn
      rw [misCell_I x1 x2, i10_eq0, if_neg e, bnd_v]
      rfl
theorem isB10 {p : Prop} [Decidable p] : isB (if p then iI 1 else iI 0) := by
  by_cases e : p
  · rw [if_pos e]; exact Or.inr rfl
  · rw [if_neg e]; exact Or.inl rfl
theorem t_isWall (a : Int32) : TwoB (F_L_isWall_0_62 a) (F_X4_isWall a) := by
  rintro M ⟨⟨⟨n, w, k, z, L, P, G, lc, lb⟩, kp, kf, c, sv, tl, tc⟩, hW, hC, hM⟩
  have h : PkC 1 n w k z L P G lc lb M := hC.1
  have hw : PkW n w k z L P G lc lb := hW.1
  have hn := hw.n6
  obtain ⟨x, x1, x2, rfl⟩ := iI_ex a
  have hwl := hw.2.1
  by_cases e : 0 ≤ x ∧ x < 25
  · obtain ⟨i, rfl⟩ : ∃ i : Nat, x = i := ⟨x.toNat, by omega⟩
    refine lookB (v := if w.testBit i = true then iI 1 else iI 0) isB10 hC hM hW ?_ (fun N hN => ?_)
    · unfold F_L_isWall_0_62 F_X3_isWall
      rw [isCell_I x1 x2, i10_eq0, if_pos e, wallAt_I h.vw (by omega) (by omega)]
      rfl
    · have hm : PkM 55 0 n w k z L P G lc lb (upI N 53 0 (iI 0)) := (hN.ref (v := iI 0)).1
      unfold F_X4_isWall
      rw [misCell_I x1 x2, i10_eq0, if_pos e, bnd_v]
      show obind2 (F_X4_refused (iI 0) N) _ = _
      rw [refused_0, ob2_s, if_pos rfl, mwall_I hm.vw (by omega) (by omega)]
      by_cases e2 : w.testBit i = true
      · rw [if_pos e2, if_neg (by decide)]; rfl
      · rw [if_neg e2]; rfl
  · refine failB (j := 1) (by decide) (by decide) hC hM hW ?_ (fun N hN => ?_)
    · unfold F_L_isWall_0_62 F_X3_isWall
      rw [isCell_I x1 x2, i10_eq0, if_neg e]
      rfl
    · unfold F_X4_isWall
      rw [misCell_I x1 x2, i10_eq0, if_neg e, bnd_v]
      rfl
theorem sgn_ite (a : Int32) : (if a = 0 then (-1 : Int32) else (1 : Int32)) = iI (sgn (decide (a ≠ 0))) := by
  by_cases e : a = 0
  · rw [if_pos e, decide_eq_false (fun z => z e)]; rfl
  · rw [if_neg e, decide_eq_true e]; rfl
theorem t_room (a b : Int32) : TwoX (F_L_room_0_62 a b) (F_X4_room a b) := by
  rintro M ⟨⟨⟨n, w, k, z, L, P, G, lc, lb⟩, kp, kf, c, sv, tl, tc⟩, hW, hC, hM⟩
  have h : PkC 1 n w k z L P G lc lb M := hC.1
  have hw : PkW n w k z L P G lc lb := hW.1
  have hn := hw.n6
  obtain ⟨x, x1, x2, rfl⟩ := iI_ex a
  by_cases e : 0 ≤ x ∧ x < (n : Int)
  · obtain ⟨i, rfl⟩ : ∃ i : Nat, x = i := ⟨x.toNat, by omega⟩
    refine lookX hC hM hW (v := iI ((rmm w L G P n i (decide (b ≠ 0)) : Nat) : Int)) ?_ (fun N hN => ?_)
    · unfold F_L_room_0_62 F_X3_room
      rw [hasCar_I h hw x1 x2, i10_eq0, if_pos e, bnd_v, sgn_ite, roomOf_I h hw (by omega)]
      rfl
    · have hm : PkM 55 0 n w k z L P G lc lb (upI N 53 0 (iI 0)) := (hN.ref (v := iI 0)).1
      have hm0 : PkM 55 0 n w k z L P G lc lb N := hN.1
      unfold F_X4_room
      rw [noCar_y hm0 hw e.1 e.2, ob2_s, if_pos rfl, bnd_v, sgn_ite, space_I hm hw (by omega), ob_s]
  · refine failX (j := 1) (by decide) (by decide) hC hM hW ?_ (fun N hN => ?_)
    · unfold F_L_room_0_62 F_X3_room
      rw [hasCar_I h hw x1 x2, i10_eq0, if_neg e]
      rfl
    · have hm : PkM 55 0 n w k z L P G lc lb N := hN.1
      unfold F_X4_room
      rw [noCar_n hm hw x1 x2 e, ob2_s, if_neg (by decide)]
      rfl
theorem t_stepsOf (a : Int32) : TwoX (F_L_stepsOf_0_62 a) (F_X4_stepsOf a) := by
  rintro M ⟨⟨⟨n, w, k, z, L, P, G, lc, lb⟩, kp, kf, c, sv, tl, tc⟩, hW, hC, hM⟩
  have h : PkC 1 n w k z L P G lc lb M := hC.1
  have hw : PkW n w k z L P G lc lb := hW.1
  have hn := hw.n6
  obtain ⟨x, x1, x2, rfl⟩ := iI_ex a
  by_cases e : 0 ≤ x ∧ x < (n : Int)
  · obtain ⟨i, rfl⟩ : ∃ i : Nat, x = i := ⟨x.toNat, by omega⟩
    refine lookX hC hM hW (v := iI (stps lc lb k i : Nat)) ?_ (fun N hN => ?_)
    · unfold F_L_stepsOf_0_62 F_X3_stepsOf
      rw [hasCar_I h hw x1 x2, i10_eq0, if_pos e, steps_I h hw (by omega)]
      rfl
    · have hm : PkM 55 0 n w k z L P G lc lb (upI N 53 0 (iI 0)) := (hN.ref (v := iI 0)).1
      have hm0 : PkM 55 0 n w k z L P G lc lb N := hN.1
      unfold F_X4_stepsOf
      rw [noCar_y hm0 hw e.1 e.2, ob2_s, if_pos rfl, msteps_I hm hw (by omega), ob_s]
  · refine failX (j := 1) (by decide) (by decide) hC hM hW ?_ (fun N hN => ?_)
    · unfold F_L_stepsOf_0_62 F_X3_stepsOf
      rw [hasCar_I h hw x1 x2, i10_eq0, if_neg e]
      rfl
    · have hm : PkM 55 0 n w k z L P G lc lb N := hN.1
      unfold F_X4_stepsOf
      rw [noCar_n hm hw x1 x2 e, ob2_s, if_neg (by decide)]
      rfl
theorem t_carOfSlide (a : Int32) : TwoX (F_L_carOfSlide_0_62 a) (F_X4_carOfSlide a) := by
  rintro M ⟨⟨⟨n, w, k, z, L, P, G, lc, lb⟩, kp, kf, c, sv, tl, tc⟩, hW, hC, hM⟩
  have h : PkC 1 n w k z L P G lc lb M := hC.1
  have hw : PkW n w k z L P G lc lb := hW.1
  have hn := hw.n6
  have hk := hw.k60
  obtain ⟨x, x1, x2, rfl⟩ := iI_ex a
  by_cases e : 0 ≤ x ∧ x < (k : Int)
  · obtain ⟨i, rfl⟩ : ∃ i : Nat, x = i := ⟨x.toNat, by omega⟩
    refine lookX hC hM hW (v := iI (lc i : Int)) ?_ (fun N hN => ?_)
    · unfold F_L_carOfSlide_0_62 F_X3_carOfSlide
      rw [hasSlide_I h hw x1 x2, i10_eq0, if_pos e, ldi_N (by omega) (by omega), h.vlc (by omega)]
      rfl
    · have hm : PkM 55 0 n w k z L P G lc lb (upI N 53 0 (iI 0)) := (hN.ref (v := iI 0)).1
      have hm0 : PkM 55 0 n w k z L P G lc lb N := hN.1
      unfold F_X4_carOfSlide
      rw [noSlide_y hm0 hw e.1 e.2, ob2_s, if_pos rfl, logCar_I hm hw (by omega), ob_s]
  · refine failX (j := 1) (by decide) (by decide) hC hM hW ?_ (fun N hN => ?_)
    · unfold F_L_carOfSlide_0_62 F_X3_carOfSlide
      rw [hasSlide_I h hw x1 x2, i10_eq0, if_neg e]
      rfl
    · have hm : PkM 55 0 n w k z L P G lc lb N := hN.1
      unfold F_X4_carOfSlide
      rw [noSlide_n hm hw x1 x2 e, ob2_s, if_neg (by decide)]
      rfl
theorem t_changeBySlide (a : Int32) : TwoX (F_L_changeBySlide_0_62 a) (F_X4_changeBySlide a) := by
  rintro M ⟨⟨⟨n, w, k, z, L, P, G, lc, lb⟩, kp, kf, c, sv, tl, tc⟩, hW, hC, hM⟩
  have h : PkC 1 n w k z L P G lc lb M := hC.1
  have hw : PkW n w k z L P G lc lb := hW.1
  have hn := hw.n6
  have hk := hw.k60
  obtain ⟨x, x1, x2, rfl⟩ := iI_ex a
  by_cases e : 0 ≤ x ∧ x < (k : Int)
  · obtain ⟨i, rfl⟩ : ∃ i : Nat, x = i := ⟨x.toNat, by omega⟩
    refine lookX hC hM hW (v := iI (lb i)) ?_ (fun N hN => ?_)
    · unfold F_L_changeBySlide_0_62 F_X3_changeBySlide
      rw [hasSlide_I h hw x1 x2, i10_eq0, if_pos e, ldi_N (by omega) (by omega), h.vlb (by omega)]
      rfl
    · have hm : PkM 55 0 n w k z L P G lc lb (upI N 53 0 (iI 0)) := (hN.ref (v := iI 0)).1
      have hm0 : PkM 55 0 n w k z L P G lc lb N := hN.1
      unfold F_X4_changeBySlide
      rw [noSlide_y hm0 hw e.1 e.2, ob2_s, if_pos rfl, logBy_I hm hw (by omega), ob_s]
  · refine failX (j := 1) (by decide) (by decide) hC hM hW ?_ (fun N hN => ?_)
    · unfold F_L_changeBySlide_0_62 F_X3_changeBySlide
      rw [hasSlide_I h hw x1 x2, i10_eq0, if_neg e]
      rfl
    · have hm : PkM 55 0 n w k z L P G lc lb N := hN.1
      unfold F_X4_changeBySlide
      rw [noSlide_n hm hw x1 x2 e, ob2_s, if_neg (by decide)]
      rfl
theorem t_stoppedPart : TwoX F_L_stoppedPart_0_62 F_X4_stoppedPart := by
  rintro M ⟨⟨⟨n, w, k, z, L, P, G, lc, lb⟩, kp, kf, c, sv, tl, tc⟩, hW, hC, hM⟩
  have h : PkC 1 n w k z L P G lc lb M := hC.1
  have hw : PkW n w k z L P G lc lb := hW.1
  have hn := hw.n6
  have hz := hw.2.2.2.2.2.1
  have h8 : M.1 1 8 = if z = -1 then iI 0 else iI 1 := h.2.2.2.1
  by_cases e : z = -1
  · refine failX (j := 1) (by decide) (by decide) hC hM hW ?_ (fun N hN => ?_)
    · unfold F_L_stoppedPart_0_62 F_X3_stoppedPart
      rw [h8, if_pos e]
      rfl
    · have hm : PkM 55 0 n w k z L P G lc lb N := hN.1
      unfold F_X4_stoppedPart
      rw [hm.vz, e]
      rfl
  · refine lookX hC hM hW (v := iI z) ?_ (fun N hN => ?_)
    · have h9 : M.1 1 9 = iI z := h.2.2.2.2.1 e
      unfold F_L_stoppedPart_0_62 F_X3_stoppedPart
      rw [h8, if_neg e, if_neg (by decide), h9]
      rfl
    · have hm : PkM 55 0 n w k z L P G lc lb N := hN.1
      have hm2 : PkM 55 0 n w k z L P G lc lb (upI N 53 0 (iI 0)) := (hN.ref (v := iI 0)).1
      unfold F_X4_stoppedPart
      rw [hm.vz, iL_m1, if_eq (by omega) (by omega) (by omega) (by omega), if_neg e, bnd_v]
      show obind2 (F_X4_refused (iI 0) N) _ = _
      rw [refused_0, ob2_s, if_pos rfl, hm2.vz]
theorem t_fewestSlides : TwoV F_X3_fewestSlides F_X4_fewestSlides := by
  rintro M ⟨⟨⟨n, w, k, z, L, P, G, lc, lb⟩, kp, kf, c, sv, tl, tc⟩, hW, hC, hM⟩
  have h : PkC 1 n w k z L P G lc lb M := hC.1
  have hw : PkW n w k z L P G lc lb := hW.1
  have hn := hw.n6
  obtain ⟨M1, f1, f2, f3, f4⟩ := explore_I h hw
  obtain ⟨M2, g1, g2, g3, g4⟩ := cslides_I f2 f3 hw.vv
  refine two_v (S' := (⟨⟨n, w, k, z, L, P, G, lc, lb⟩, kp, kf, c, sv, tl, tc⟩ : Wst)) (M1 := M2) (v := iI (Aleast w L G n 3 (enc P n))) hM hW ?_ (hC.frx hW.2.2.1 (f4.tr g4)) (f4.tr g4).cl (fun N hN => ?_)
  · unfold F_X3_fewestSlides
    rw [f1, ob_s, g1, ob2_s]
  · have hm : PkM 55 0 n w k z L P G lc lb N := hN.1
    obtain ⟨N1, k1, k2, k3⟩ := mfewest_I (m := 3) (by decide) hm hw
    refine ⟨upI N1 53 0 (0 : Int32), ?_, (hN.fry k3).ref, k3.mo.tr mo_ref⟩
    unfold F_X4_fewestSlides
    rw [show (3 : Int32) = iI ((3 : Nat) : Int) from rfl, k1, ob2_s, told_e, ob2_s]
theorem t_fewestSteps : TwoV F_X3_fewestSteps F_X4_fewestSteps := by
  rintro M ⟨⟨⟨n, w, k, z, L, P, G, lc, lb⟩, kp, kf, c, sv, tl, tc⟩, hW, hC, hM⟩
  have h : PkC 1 n w k z L P G lc lb M := hC.1
  have hw : PkW n w k z L P G lc lb := hW.1
  have hn := hw.n6
  obtain ⟨M1, f1, f2, f3, f4⟩ := explore_I h hw
  obtain ⟨M2, g1, g2, g3, g4⟩ := csteps_I f2 f3 hw.vv
  refine two_v (S' := (⟨⟨n, w, k, z, L, P, G, lc, lb⟩, kp, kf, c, sv, tl, tc⟩ : Wst)) (M1 := M2) (v := iI (Aleast w L G n 1 (enc P n))) hM hW ?_ (hC.frx hW.2.2.1 (f4.tr g4)) (f4.tr g4).cl (fun N hN => ?_)
  · unfold F_X3_fewestSteps
    rw [f1, ob_s, g1, ob2_s]
  · have hm : PkM 55 0 n w k z L P G lc lb N := hN.1
    obtain ⟨N1, k1, k2, k3⟩ := mfewest_I (m := 1) (by decide) hm hw
    refine ⟨upI N1 53 0 (0 : Int32), ?_, (hN.fry k3).ref, k3.mo.tr mo_ref⟩
    unfold F_X4_fewestSteps
    rw [show (1 : Int32) = iI ((1 : Nat) : Int) from rfl, k1, ob2_s, told_e, ob2_s]
theorem t_fewestSlidesFromEnds : TwoV F_X3_fewestSlidesFromEnds F_X4_fewestSlidesFromEnds := by
  rintro M ⟨⟨⟨n, w, k, z, L, P, G, lc, lb⟩, kp, kf, c, sv, tl, tc⟩, hW, hC, hM⟩
  have h : PkC 1 n w k z L P G lc lb M := hC.1
  have hw : PkW n w k z L P G lc lb := hW.1
  have hn := hw.n6
  obtain ⟨M1, f1, f2, f3, f4⟩ := explore_I h hw
  obtain ⟨M2, S, g1, g2, g3, g4, g5, g6, g7⟩ := cends_I f2 f3 hw.vv
  refine two_v (S' := (⟨⟨n, w, k, z, L, P, G, lc, lb⟩, kp, kf, c, sv, tl, tc⟩ : Wst)) (M1 := M2) (v := iI (Aend w L G n (enc P n))) hM hW ?_ (hC.frx hW.2.2.1 (f4.tr g7)) (f4.tr g7).cl (fun N hN => ?_)
  · unfold F_X3_fewestSlidesFromEnds
    rw [f1, ob_s, g1, ob2_s]
  · have hm : PkM 55 0 n w k z L P G lc lb N := hN.1
    obtain ⟨N1, k1, k2, k3⟩ := mfends_I hm hw
    refine ⟨upI N1 53 0 (0 : Int32), ?_, (hN.fry k3).ref, k3.mo.tr mo_ref⟩
    unfold F_X4_fewestSlidesFromEnds
    rw [k1, ob2_s, told_e, ob2_s]
theorem t_leastFuel : TwoV F_X3_leastFuel F_X4_leastFuel := by
  rintro M ⟨⟨⟨n, w, k, z, L, P, G, lc, lb⟩, kp, kf, c, sv, tl, tc⟩, hW, hC, hM⟩
  have h : PkC 1 n w k z L P G lc lb M := hC.1
  have hw : PkW n w k z L P G lc lb := hW.1
  have hn := hw.n6
  obtain ⟨M1, f1, f2, f3, f4⟩ := explore_I h hw
  obtain ⟨M2, g1, g2, g3, g4⟩ := cbuck_I f2 f3 hw.vv
  refine two_v (S' := (⟨⟨n, w, k, z, L, P, G, lc, lb⟩, kp, kf, c, sv, tl, tc⟩ : Wst)) (M1 := M2) (v := iI (Afuel w L G n (enc P n))) hM hW ?_ (hC.frx hW.2.2.1 (f4.tr g4)) (f4.tr g4).cl (fun N hN => ?_)
  · unfold F_X3_leastFuel
    rw [f1, ob_s, g1, ob2_s]
  · have hm : PkM 55 0 n w k z L P G lc lb N := hN.1
    obtain ⟨N1, k1, k2, k3⟩ := mcheap_I hm hw
    refine ⟨upI N1 53 0 (0 : Int32), ?_, (hN.fry k3).ref, k3.mo.tr mo_ref⟩
    unfold F_X4_leastFuel
    rw [k1, ob2_s, told_e, ob2_s]
theorem t_leastFuelByRounds : TwoV F_X3_leastFuelByRounds F_X4_leastFuelByRounds := by
  rintro M ⟨⟨⟨n, w, k, z, L, P, G, lc, lb⟩, kp, kf, c, sv, tl, tc⟩, hW, hC, hM⟩
  have h : PkC 1 n w k z L P G lc lb M := hC.1
  have hw : PkW n w k z L P G lc lb := hW.1
  have hn := hw.n6
  obtain ⟨M1, f1, f2, f3, f4⟩ := explore_I h hw
  obtain ⟨M2, g1, g2, g3, g4⟩ := crnd_I f2 f3 hw.vv
  refine two_v (S' := (⟨⟨n, w, k, z, L, P, G, lc, lb⟩, kp, kf, c, sv, tl, tc⟩ : Wst)) (M1 := M2) (v := iI (Afuel w L G n (enc P n))) hM hW ?_ (hC.frx hW.2.2.1 (f4.tr g4)) (f4.tr g4).cl (fun N hN => ?_)
  · unfold F_X3_leastFuelByRounds
    rw [f1, ob_s, g1, ob2_s]
  · have hm : PkM 55 0 n w k z L P G lc lb N := hN.1
    obtain ⟨N1, k1, k2, k3⟩ := mcheap_I hm hw
    refine ⟨upI N1 53 0 (0 : Int32), ?_, (hN.fry k3).ref, k3.mo.tr mo_ref⟩
    unfold F_X4_leastFuelByRounds
    rw [k1, ob2_s, told_e, ob2_s]
theorem t_reachable : TwoV F_X3_reachable F_X4_reachable := by
  rintro M ⟨⟨⟨n, w, k, z, L, P, G, lc, lb⟩, kp, kf, c, sv, tl, tc⟩, hW, hC, hM⟩
  have h : PkC 1 n w k z L P G lc lb M := hC.1
  have hw : PkW n w k z L P G lc lb := hW.1
  have hn := hw.n6
  obtain ⟨M1, f1, f2, f3, f4⟩ := explore_I h hw
  obtain ⟨M2, S, g1, g2, g3, g4, g5, g6, g7⟩ := sfs_I (m := 3) (by decide) f2 f3 hw.vv
  refine two_v (S' := (⟨⟨n, w, k, z, L, P, G, lc, lb⟩, kp, kf, c, sv, tl, tc⟩ : Wst)) (M1 := M2) (v := iI (Acnt w L G n (enc P n))) hM hW ?_ (hC.frx hW.2.2.1 (f4.tr g7)) (f4.tr g7).cl (fun N hN => ?_)
  · unfold F_X3_reachable
    rw [f1, ob_s, show (3 : Int32) = iI ((3 : Nat) : Int) from rfl, g1, ob_s, ccnt_I g2 g4]
  · have hm : PkM 55 0 n w k z L P G lc lb N := hN.1
    obtain ⟨N1, k0, k1, k2, k3, k4⟩ := mreach_I hm hw
    refine ⟨upI N1 53 0 (0 : Int32), ?_, (hN.fry k4).ref, k4.mo.tr mo_ref⟩
    unfold F_X4_reachable
    rw [k0, ob2_s, told_e, ob2_s]
theorem t_reachableOut : TwoV F_X3_reachableOut F_X4_reachableOut := by
  rintro M ⟨⟨⟨n, w, k, z, L, P, G, lc, lb⟩, kp, kf, c, sv, tl, tc⟩, hW, hC, hM⟩
  have h : PkC 1 n w k z L P G lc lb M := hC.1
  have hw : PkW n w k z L P G lc lb := hW.1
  have hn := hw.n6
  obtain ⟨M1, f1, f2, f3, f4⟩ := explore_I h hw
  obtain ⟨M2, S, g1, g2, g3, g4, g5, g6, g7⟩ := sfs_I (m := 3) (by decide) f2 f3 hw.vv
  refine two_v (S' := (⟨⟨n, w, k, z, L, P, G, lc, lb⟩, kp, kf, c, sv, tl, tc⟩ : Wst)) (M1 := M2) (v := iI (Aout w L G n (enc P n))) hM hW ?_ (hC.frx hW.2.2.1 (f4.tr g7)) (f4.tr g7).cl (fun N hN => ?_)
  · unfold F_X3_reachableOut
    rw [f1, ob_s, show (3 : Int32) = iI ((3 : Nat) : Int) from rfl, g1, ob_s, cout_I g5 g2 g4, ob_s]
  · have hm : PkM 55 0 n w k z L P G lc lb N := hN.1
    obtain ⟨N1, k0, k1, k2, k3, k4⟩ := mreach_I hm hw
    refine ⟨upI N1 53 0 (0 : Int32), ?_, (hN.fry k4).ref, k4.mo.tr mo_ref⟩
    unfold F_X4_reachableOut
    rw [k1, ob2_s, told_e, ob2_s]
theorem t_farthest : TwoV F_X3_farthest F_X4_farthest := by
  rintro M ⟨⟨⟨n, w, k, z, L, P, G, lc, lb⟩, kp, kf, c, sv, tl, tc⟩, hW, hC, hM⟩
  have h : PkC 1 n w k z L P G lc lb M := hC.1
  have hw : PkW n w k z L P G lc lb := hW.1
  have hn := hw.n6
  obtain ⟨M1, f1, f2, f3, f4⟩ := explore_I h hw
  obtain ⟨M2, S, g1, g2, g3, g4, g5, g6, g7⟩ := sfs_I (m := 3) (by decide) f2 f3 hw.vv
  refine two_v (S' := (⟨⟨n, w, k, z, L, P, G, lc, lb⟩, kp, kf, c, sv, tl, tc⟩ : Wst)) (M1 := M2) (v := iI (Afar w L G n (enc P n))) hM hW ?_ (hC.frx hW.2.2.1 (f4.tr g7)) (f4.tr g7).cl (fun N hN => ?_)
  · unfold F_X3_farthest
    rw [f1, ob_s, show (3 : Int32) = iI ((3 : Nat) : Int) from rfl, g1, ob_s, cfar_I g5 g2 g4, ob_s]
  · have hm : PkM 55 0 n w k z L P G lc lb N := hN.1
    obtain ⟨N1, k0, k1, k2, k3, k4⟩ := mreach_I hm hw
    refine ⟨upI N1 53 0 (0 : Int32), ?_, (hN.fry k4).ref, k4.mo.tr mo_ref⟩
    unfold F_X4_farthest
    rw [k2, ob2_s, told_e, ob2_s]
theorem t_arrangements : TwoV F_X3_arrangements F_X4_arrangements := by
  rintro M ⟨⟨⟨n, w, k, z, L, P, G, lc, lb⟩, kp, kf, c, sv, tl, tc⟩, hW, hC, hM⟩
  have h : PkC 1 n w k z L P G lc lb M := hC.1
  have hw : PkW n w k z L P G lc lb := hW.1
  have hn := hw.n6
  obtain ⟨M1, f1, f2, f3, f4⟩ := explore_I h hw
  refine two_v (S' := (⟨⟨n, w, k, z, L, P, G, lc, lb⟩, kp, kf, c, sv, tl, tc⟩ : Wst)) (M1 := M1) (v := iI ((Aall w L G n : Nat) : Int)) hM hW ?_ (hC.frx hW.2.2.1 f4) f4.cl (fun N hN => ?_)
  · unfold F_X3_arrangements
    rw [f1, ob_s, call_I f2, ob_s]
  · have hm : PkM 55 0 n w k z L P G lc lb N := hN.1
    obtain ⟨N1, k1, k2, k3⟩ := mall_I hm hw
    refine ⟨upI N1 53 0 (0 : Int32), ?_, (hN.fry k3).ref, k3.mo.tr mo_ref⟩
    unfold F_X4_arrangements
    rw [k1, ob2_s, told_e, ob2_s]

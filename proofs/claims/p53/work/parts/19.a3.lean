/-! ===== plans, arrangements, what would be ===== -/
abbrev xs0 (S : Wst) : Nat := enc (xP S) (xn S)
theorem WI.c5 {S : Wst} (h : WI S) : sC S ≤ 5 := h.2.2.1
section SE2
variable {S : Wst}
theorem few_d (hW : WI S) : Dt S F_X3_fewestSlides (iI (Aleast (xw S) (xL S) (xG S) (xn S) 3 (xs0 S))) S := fun M hC => by
  obtain ⟨M1, f1, f2, f3, f4⟩ := explore_I hC.pk hW.pk
  obtain ⟨M2, g1, g2, g3, g4⟩ := cslides_I f2 f3 hW.pk.vv
  refine ⟨M2, ?_, hC.frx hW.c5 (f4.tr g4)⟩
  unfold F_X3_fewestSlides
  rw [f1, ob_s, g1, ob2_s]
theorem fewE_d (hW : WI S) : Dt S F_X3_fewestSlidesFromEnds (iI (Aend (xw S) (xL S) (xG S) (xn S) (xs0 S))) S := fun M hC => by
  obtain ⟨M1, f1, f2, f3, f4⟩ := explore_I hC.pk hW.pk
  obtain ⟨M2, S2, g1, -, -, -, g2, g3, g4⟩ := cends_I f2 f3 hW.pk.vv
  refine ⟨M2, ?_, hC.frx hW.c5 (f4.tr g4)⟩
  unfold F_X3_fewestSlidesFromEnds
  rw [f1, ob_s, g1, ob2_s]
theorem steps_d (hW : WI S) : Dt S F_X3_fewestSteps (iI (Aleast (xw S) (xL S) (xG S) (xn S) 1 (xs0 S))) S := fun M hC => by
  obtain ⟨M1, f1, f2, f3, f4⟩ := explore_I hC.pk hW.pk
  obtain ⟨M2, g1, g2, g3, g4⟩ := csteps_I f2 f3 hW.pk.vv
  refine ⟨M2, ?_, hC.frx hW.c5 (f4.tr g4)⟩
  unfold F_X3_fewestSteps
  rw [f1, ob_s, g1, ob2_s]
theorem fuel_d (hW : WI S) : Dt S F_X3_leastFuel (iI (Afuel (xw S) (xL S) (xG S) (xn S) (xs0 S))) S := fun M hC => by
  obtain ⟨M1, f1, f2, f3, f4⟩ := explore_I hC.pk hW.pk
  obtain ⟨M2, g1, g2, g3, g4⟩ := cbuck_I f2 f3 hW.pk.vv
  refine ⟨M2, ?_, hC.frx hW.c5 (f4.tr g4)⟩
  unfold F_X3_leastFuel
  rw [f1, ob_s, g1, ob2_s]
theorem fuelR_d (hW : WI S) : Dt S F_X3_leastFuelByRounds (iI (Afuel (xw S) (xL S) (xG S) (xn S) (xs0 S))) S := fun M hC => by
  obtain ⟨M1, f1, f2, f3, f4⟩ := explore_I hC.pk hW.pk
  obtain ⟨M2, g1, g2, g3, g4⟩ := crnd_I f2 f3 hW.pk.vv
  refine ⟨M2, ?_, hC.frx hW.c5 (f4.tr g4)⟩
  unfold F_X3_leastFuelByRounds
  rw [f1, ob_s, g1, ob2_s]
theorem reach_d (hW : WI S) : Dt S F_X3_reachable (iI (Acnt (xw S) (xL S) (xG S) (xn S) (xs0 S))) S := fun M hC => by
  obtain ⟨M1, f1, f2, f3, f4⟩ := explore_I hC.pk hW.pk
  obtain ⟨M2, S2, g1, g2, g3, g4, g5, g6, g7⟩ := sfs_I (m := 3) (by decide) f2 f3 hW.pk.vv
  refine ⟨M2, ?_, hC.frx hW.c5 (f4.tr g7)⟩
  unfold F_X3_reachable
  rw [f1, ob_s, show (3 : Int32) = iI ((3 : Nat) : Int) from rfl, g1, ob_s, ccnt_I g2 g4]
theorem reachO_d (hW : WI S) : Dt S F_X3_reachableOut (iI (Aout (xw S) (xL S) (xG S) (xn S) (xs0 S))) S := fun M hC => by
  obtain ⟨M1, f1, f2, f3, f4⟩ := explore_I hC.pk hW.pk
  obtain ⟨M2, S2, g1, g2, g3, g4, g5, g6, g7⟩ := sfs_I (m := 3) (by decide) f2 f3 hW.pk.vv
  refine ⟨M2, ?_, hC.frx hW.c5 (f4.tr g7)⟩
  unfold F_X3_reachableOut
  rw [f1, ob_s, show (3 : Int32) = iI ((3 : Nat) : Int) from rfl, g1, ob_s, cout_I g5 g2 g4, ob_s]
theorem far_d (hW : WI S) : Dt S F_X3_farthest (iI (Afar (xw S) (xL S) (xG S) (xn S) (xs0 S))) S := fun M hC => by
  obtain ⟨M1, f1, f2, f3, f4⟩ := explore_I hC.pk hW.pk
  obtain ⟨M2, S2, g1, g2, g3, g4, g5, g6, g7⟩ := sfs_I (m := 3) (by decide) f2 f3 hW.pk.vv
  refine ⟨M2, ?_, hC.frx hW.c5 (f4.tr g7)⟩
  unfold F_X3_farthest
  rw [f1, ob_s, show (3 : Int32) = iI ((3 : Nat) : Int) from rfl, g1, ob_s, cfar_I g5 g2 g4, ob_s]
theorem arr_d (hW : WI S) : Dt S F_X3_arrangements (iI ((Aall (xw S) (xL S) (xG S) (xn S) : Nat) : Int)) S := fun M hC => by
  obtain ⟨M1, f1, f2, f3, f4⟩ := explore_I hC.pk hW.pk
  refine ⟨M1, ?_, hC.frx hW.c5 f4⟩
  unfold F_X3_arrangements
  rw [f1, ob_s, call_I f2, ob_s]
/-- the next slide, by its number: 7 times the car, and the change and 3 -/
theorem next_y (hW : WI S) {S0 : SS} (hS0 : SrE (xw S) (xL S) (xG S) (xn S) S0) (e : 0 < S0.1 (xs0 S)) {x : Nat} (hx : NX1 (xw S) (xL S) (xG S) (xn S) S0.1 (xs0 S) x) : Dt S F_L_tryNext (iI ((x / 7 : Nat) : Int)) S ∧ Dt S F_L_tryChange (iI (((x % 7 : Nat) : Int) - 3)) S := by
  refine ⟨fun M hC => ?_, fun M hC => ?_⟩
  · obtain ⟨M1, g1, g2, g3, g4⟩ := (cnext_I hC.pk hW.pk hS0).1 e x hx
    refine ⟨M1, ?_, hC.frx hW.c5 g4⟩
    unfold F_L_tryNext F_X3_nextCar
    rw [g1, ob2_s, if_neg (by decide), g2, obX_l]
  · obtain ⟨M1, g1, g2, g3, g4⟩ := (cnext_I hC.pk hW.pk hS0).1 e x hx
    refine ⟨M1, ?_, hC.frx hW.c5 g4⟩
    unfold F_L_tryChange F_X3_nextChange
    rw [g1, ob2_s, if_neg (by decide), g3, obX_l]
theorem next_no (hW : WI S) {S0 : SS} (hS0 : SrE (xw S) (xL S) (xG S) (xn S) S0) (e : ¬ 0 < S0.1 (xs0 S)) : Dt S F_L_tryNext (iI (xr 3)) S ∧ Dt S F_L_tryChange (iI (xr 3)) S := by
  refine ⟨fun M hC => ?_, fun M hC => ?_⟩
  · obtain ⟨M1, g1, g4⟩ := (cnext_I hC.pk hW.pk hS0).2 e
    refine ⟨M1, ?_, hC.frx hW.c5 g4⟩
    unfold F_L_tryNext F_X3_nextCar
    rw [g1, ob2_s, if_pos rfl, obX_r]; rfl
  · obtain ⟨M1, g1, g4⟩ := (cnext_I hC.pk hW.pk hS0).2 e
    refine ⟨M1, ?_, hC.frx hW.c5 g4⟩
    unfold F_L_tryChange F_X3_nextChange
    rw [g1, ob2_s, if_pos rfl, obX_r]; rfl
theorem beh_no {M : Wd} (h : CI S M) (hW : WI S) {c b : Int} (c1 : -2147483648 ≤ c) (c2 : c < 2147483648) (b1 : -2147483648 ≤ b) (b2 : b < 2147483648) {j : Nat} (e : tS (xn S) (xw S) (xL S) (xG S) (xP S) c b = j) (hj : j = 1 ∨ j = 2 ∨ j = 3) : F_L_tryBehind (iI c) (iI b) M = some (iI (xr j), M) := by
  unfold F_L_tryBehind F_X3_fewestBehind
  rw [cslide_t h.pk hW.pk c1 c2 b1 b2, ob_s, e]
  rcases hj with rfl | rfl | rfl <;> rfl
theorem beh_y (hW : WI S) {i q : Nat} {b : Int} (hi : i < xn S) (b1 : -3 ≤ b) (b2 : b ≤ 3) (b0 : b ≠ 0) (e3 : canS (xw S) (xL S) (xG S) (xP S) (xn S) i b = true) (hq : (q : Int) = (xP S i : Int) + b) : Dt S (F_L_tryBehind (iI (i : Int)) (iI b)) (iI (Aleast (xw S) (xL S) (xG S) (xn S) 3 (enc (updN (xP S) i q) (xn S)))) S := fun M hC => by
  have hw := hW.pk
  have hn := hw.n6
  have e : tS (xn S) (xw S) (xL S) (xG S) (xP S) (i : Int) b = 0 := by
    unfold tS
    rw [if_neg (by omega), if_neg (by omega), Int.toNat_natCast, if_pos e3]
  obtain ⟨q', q1, q2, q3, q4⟩ := slide_y hw hi b1 b2 e3
  have hqq : q' = q := by omega
  subst hqq
  obtain ⟨M1, f1, f2, f3, f4⟩ := explore_I hC.pk hw
  have hvv : VV (xw S) (xL S) (xG S) (xn S) (enc (updN (xP S) i q') (xn S)) := by
    have h4 : ∀ j, j < xn S → updN (xP S) i q' j < 4 := fun j hj => by
      unfold updN
      split
      · exact q2
      · exact hw.P4 hj
    exact ⟨enc_lt h4, by rw [okc_enc h4]; exact q3⟩
  obtain ⟨M2, g1, g2, g3, g4⟩ := cslides_I (M := upI M1 44 8 (iI ((enc (updN (xP S) i q') (xn S) : Nat) : Int))) f2.st (by rw [upI_at, if_pos rfl]) hvv
  have hfr : frX M M2 := (f4.tr (N := M1) (O := upI M1 44 8 (iI ((enc (updN (xP S) i q') (xn S) : Nat) : Int))) ⟨fun c hc => upI_row_ne (by omega), rfl⟩).tr g4
  refine ⟨M2, ?_, hC.frx hW.c5 hfr⟩
  unfold F_L_tryBehind F_X3_fewestBehind
  rw [cslide_t hC.pk hw (by omega) (by omega) (by omega) (by omega), ob_s, e]
  show obindX (obindX (F_X3_refuse (iI 0) M) _ _) _ _ = _
  rw [refuse_0, obX_l, f1, ob_s, f3, bslide_I f2 hi hw.elt b1 b2, ob_s, q4]
  show obindX (obind2 (F_X0_slidesFromStart (upI M1 44 8 (iI ((enc (updN (xP S) i q') (xn S) : Nat) : Int)))) _) _ _ = _
  rw [g1, ob2_s, obX_l]
theorem wo_no {M : Wd} (h : CI S M) (hW : WI S) (e : ¬ 2 ≤ xn S) : F_L_tryWithout M = some (iI (xr 3), M) := by
  have hn := hW.pk.n6
  unfold F_L_tryWithout F_X3_fewestWithoutLast
  rw [h.pk.vn, show (2 : Int32) = iI 2 from rfl, if_le (by omega) (by omega) (by omega) (by omega), if_neg (by omega)]; rfl
theorem ww_n1 {M : Wd} {c : Int} (c1 : -2147483648 ≤ c) (c2 : c < 2147483648) (e : ¬ (0 ≤ c ∧ c < 25)) : F_L_tryWithWall (iI c) M = some (iI (xr 1), M) := by
  unfold F_L_tryWithWall F_X3_fewestWithWall
  rw [isCell_I c1 c2, i10_eq0, if_neg e]; rfl
theorem ww_n3 {M : Wd} (h : CI S M) (hW : WI S) {x : Nat} (hx : x < 25) (e : (ocm (xw S) (xL S) (xG S) (xP S) (xn S)).testBit x = true) : F_L_tryWithWall (iI (x : Int)) M = some (iI (xr 3), M) := by
  have ho := hW.pk.oc
  unfold F_L_tryWithWall F_X3_fewestWithWall
  rw [isCell_I (by omega) (by omega), i10_eq0, if_pos (by omega), taken_I h.pk hW.pk, ob_s, cbit_I (by omega) (by omega), if_pos e]; rfl
/-- driving out -/
theorem drive_no (hW : WI S) (e : ¬ 0 ≤ drv (xw S) (xL S) (xG S) (xn S) (xs0 S) (xk S)) : Dt S F_L_tryDrive (iI (xr 3)) S := fun M hC => by
  obtain ⟨M1, S1, f1, f2, f3, f4, f5, f6, f7⟩ := cstd_I hC.pk hW.pk
  have hlo := Aend_lo f4 (a := xs0 S)
  have hA := Aend_eq (s := xs0 S) f4
  have hdr : drv (xw S) (xL S) (xG S) (xn S) (xs0 S) (xk S) = -1 := by
    unfold drv at e ⊢
    by_cases e3 : (xk S : Int) + Aend (xw S) (xL S) (xG S) (xn S) (xs0 S) ≤ 60
    · rw [if_pos e3] at e ⊢; omega
    · rw [if_neg e3]
  refine ⟨M1, ?_, hC.frx hW.c5 f7⟩
  unfold F_L_tryDrive F_X3_driveOut
  rw [f1, hdr, ob2_s, if_neg (show ¬ (0 : Int32) ≤ iI (-1) by decide), obX_r]; rfl
theorem SrE_same {w n : Nat} {L G : Nat → Nat} {S T : SS} (h : SrE w L G n S) (h2 : SrE w L G n T) : S.1 = T.1 := (h.eq h2).1
theorem drive_y (hW : WI S) {S0 : SS} (hS0 : SrE (xw S) (xL S) (xG S) (xn S) S0) {r : Nat} (hr : S0.1 (xs0 S) = (r : Int)) (hk : xk S + r ≤ 60) {s' : Pst} (hp : PLn S0.1 r (sN S) s') (hs : pW s') : WI (setN (savS S) s') ∧ Dt S F_L_tryDrive (iI (r : Int)) (setN (savS S) s') := by
  have hW2 := hW.sav
  refine ⟨hW2.now hs, fun M hC => ?_⟩
  have hw := hW.pk
  have hn := hw.n6
  obtain ⟨M1, S1, f1, f2, f3, f4, f5, f6, f7⟩ := cstd_I hC.pk hw
  have hS1 := SrE_same hS0 f4
  have hA := Aend_eq (s := xs0 S) f4
  rw [hS1] at hr hp
  have hdr : drv (xw S) (xL S) (xG S) (xn S) (xs0 S) (xk S) = (r : Int) := by
    unfold drv
    rw [hA, hr, if_pos (by omega)]
  have hC1 := hC.frx hW.c5 f7
  obtain ⟨M2, g1, g2, g3⟩ := csave_S hC1 hW
  obtain ⟨M3, k1, k2, k3⟩ := cmk_I (M := M2) f4 f3 hk hr g2.svN hw (f5.eqv (by rw [g3 44 (by omega)]) (by rw [g3 44 (by omega)]) (g3 45 (by omega)) (g3 46 (by omega))) (f2.eqv (by rw [g3 44 (by omega)]) (g3 47 (by omega)) (g3 48 (by omega))) (by rw [g3 44 (by omega)]; exact f6) hp
  refine ⟨M3, ?_, g2.nowZ hW2.2.2.1 k2 k3⟩
  unfold F_L_tryDrive F_X3_driveOut
  rw [f1, hdr, ob2_s, iL_0, if_le (by omega) (by omega) (by omega) (by omega), if_pos (by omega), g1, ob_s, k1, ob2_s, obX_l]
/-- the digest -/
theorem dig_d (hW : WI S) : ∃ v, Dt S F_X3_digest v S := by
  obtain ⟨⟨n, w, k, z, L, P, G, lc, lb⟩, kp, kf, c, sv, tl, tc⟩ := S
  have hw : PkW n w k z L P G lc lb := hW.1
  have hn := hw.n6
  have hk := hw.k60
  have hz := hw.2.2.2.2.2.1
  obtain ⟨v, v1, v2, v3, v4⟩ := share_I hw
  refine ⟨hAll w n k c z L P G lc lb v tl tc, fun M hC => ?_⟩
  have h : PkC 1 n w k z L P G lc lb M := hC.1
  obtain ⟨M1, f1, f2, f3, f4⟩ := explore_I h hw
  obtain ⟨M2, p1, p2, p3, p4⟩ := cplans_I (x := hPark w n k L P G lc lb 4507) f2 f3 hw.vv
  obtain ⟨M3, S, g1, g2, g3, g4, g5, g6, g7⟩ := sfs_I (m := 3) (by decide) p2 p3 hw.vv
  have hf := (f4.tr p4).tr g7
  have h3 := h.frx (by omega) hf
  have hC3 := hC.frx hW.2.2.1 hf
  have hk3 : Tk tl tc M3 := hC3.tk hW
  have h60 : tl ≤ 60 := hk3.1
  have h05 : M3.1 0 5 = iI (c : Int) := hC3.2.2.2.1
  have h18 : M3.1 1 8 = if z = -1 then iI 0 else iI 1 := h3.2.2.2.1
  obtain ⟨q1, e1⟩ := fuelS 25 (by decide)
  obtain ⟨q2, e2⟩ := fuelS n (by omega)
  obtain ⟨q3, e3⟩ := fuelS k (by omega)
  obtain ⟨q4, e4⟩ := fuelS tl (by omega)
  refine ⟨M3, ?_, hC3⟩
  have c1 : ∀ x, F_X3_hashOfCells x M3 = some (hCells w n L P G 25 0 x) := fun x => by
    unfold F_X3_hashOfCells
    rw [e1]; exact ccells_loop h3 hw 25 q1 0 x rfl
  have c2 : ∀ x, F_X3_hashOfCars x M3 = some (hCars w n k L P G lc lb n 0 x) := fun x => by
    unfold F_X3_hashOfCars
    rw [e2]; exact ccars_loop h3 hw n q2 0 x (Nat.zero_add n)
  have c3 : ∀ x, F_X3_hashOfLog x M3 = some (hLog lc lb k 0 x) := fun x => by
    unfold F_X3_hashOfLog
    rw [e3]; exact clog_loop h3 hw k q3 0 x (Nat.zero_add k)
  have c4 : ∀ x, F_X3_hashOfText x M3 = some (hText tc tl 0 (mx x (iI (tl : Int)))) := fun x => by
    unfold F_X3_hashOfText
    rw [hk3.2.2.1, bnd_v, e4]; exact ctext_loop hk3 tl q4 0 _ (Nat.zero_add tl)
  unfold F_X3_digest
  rw [cpark_I h hw, ob_s, f1, ob_s, p1, ob2_s, show (3 : Int32) = iI ((3 : Nat) : Int) from rfl, g1, ob_s, carr_I g5 g2 g4, ob_s, h05, bnd_v, c1, ob_s, c2, ob_s, c3, ob_s, h18, bnd_v, bnd_v, bnd_v, call_I g5, ob_s, ccnt_I g2 g4, v1, ob_s, v4, ob_s, bnd_v, c4, ob_s]
  unfold hAll
  by_cases e : z = -1
  · rw [if_pos e, hStop_y e, if_pos (show iI 0 = (0 : Int32) from rfl), if_pos (show iI 0 = (0 : Int32) from rfl)]
  · rw [if_neg e, hStop_n e, if_neg (show ¬ iI 1 = (0 : Int32) by decide), if_neg (show ¬ iI 1 = (0 : Int32) by decide), h3.2.2.2.2.1 e]
end SE2

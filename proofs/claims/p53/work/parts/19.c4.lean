/-! ===== what holds in each park, all of it; plans ===== -/
section HO
variable {S : Wst}
theorem rmN1 {M : Wd} (h : CI S M) (hW : WI S) {i : Nat} (hi : i < xn S) : F_L_room_n (iI (i : Int)) (1 : Int32) M = some (iI ((rmm (xw S) (xL S) (xG S) (xP S) (xn S) i true : Nat) : Int)) := rmN h hW hi true
theorem rmN0 {M : Wd} (h : CI S M) (hW : WI S) {i : Nat} (hi : i < xn S) : F_L_room_n (iI (i : Int)) (0 : Int32) M = some (iI ((rmm (xw S) (xL S) (xG S) (xP S) (xn S) i false : Nat) : Int)) := rmN h hW hi false
theorem holds_A (hW : WI S) {a1 a2 a3 a4 a5 a7 a8 a9 : Int32} {c : Nat} (hc : c < 100) {K : Int32 → Wd → Option (Int32 × Wd)} {M : Wd} (h : CI S M) :
    F_L_holds_L98 a1 a2 a3 a4 a5 (iI (c : Int)) a7 a8 a9 K fuelN (0 : Int32) (0 : Int32) M = K (iI ((stps (xc S) (xb S) (xk S) c : Nat) : Int)) M := by
  have hk := hW.pk.k60
  obtain ⟨p, hp⟩ := fuelS (xk S) (by omega)
  rw [hp]
  exact holds_L98 hW hc (xk S) p 0 M (Nat.zero_add _) h
theorem holds_B (hW : WI S) {a1 a2 a3 a4 a10 : Int32} {c : Nat} (hc : c < xn S) {K : Int32 → Wd → Option (Int32 × Wd)} {M : Wd} (h : CI S M) :
    F_L_holds_L165 a1 a2 a3 a4 (iI (c : Int)) (iI (xL S c : Int)) (iI (xP S c : Int)) (iI (xG S c : Int)) a10 K fuelN (1 : Int32) (0 : Int32) M = K 1 M := by
  have hg := hW.pk.2.2.1 c hc
  obtain ⟨p, hp⟩ := fuelS (xG S c) (by omega)
  rw [hp]
  exact holds_L165 hW hc (xG S c) p 0 M (Nat.zero_add _) h
theorem holds_L45 (hW : WI S) (hL : LW S) {K : Int32 → Int32 → Int32 → Int32 → Wd → Option (Int32 × Wd)} : ∀ (r q c : Nat) (M : Wd), c + r = xn S → CI S M →
    F_L_holds_L45 (iI (xn S : Int)) K (q + 1 + r) (iI ((fb_sm (xG S) c : Nat) : Int)) (iI ((allR (xw S) (xL S) (xG S) (xP S) (xn S) c : Nat) : Int)) (iI ((fuC (xG S) (xc S) (xb S) (xk S) c : Nat) : Int)) 1 (iI (c : Int)) M = K (iI ((fb_sm (xG S) (xn S) : Nat) : Int)) (iI ((allR (xw S) (xL S) (xG S) (xP S) (xn S) (xn S) : Nat) : Int)) (iI ((fuC (xG S) (xc S) (xb S) (xk S) (xn S) : Nat) : Int)) 1 M
  | 0, q, c, M, hr, h => by
    have hn := hW.pk.n6
    show (if iI (xn S : Int) ≤ iI (c : Int) then K _ _ _ _ M else _) = _
    rw [if_le (by omega) (by omega) (by omega) (by omega), if_pos (by omega), show c = xn S by omega]
  | r + 1, q, c, M, hr, h => by
    have hn := hW.pk.n6
    have hc : c < xn S := by omega
    have hg := hW.pk.2.2.1 c hc
    have h5 := hW.pk.in5 hc
    have r1 := rmm_up hW.pk hc
    have r0 := rmm_dn hW.pk hc
    rw [show q + 1 + (r + 1) = (q + 1 + r) + 1 from rfl, F_L_holds_L45]
    rw [if_le (by omega) (by omega) (by omega) (by omega), if_neg (by omega), if_neg (show ¬ (1 : Int32) = 0 by decide), cnn_10, tlN h hW hc, ob_s, ob2_s, cnn_11, tpN h hW hc, ob_s, ob2_s, cnn_12, tgN h hW hc, ob_s, ob2_s, holds_A hW (by omega) h, holds_B hW hc h, bnd_v, bnd_v, rmN1 h hW hc, ob_s, rmN0 h hW hc, ob_s, bnd_v]
    have k1 : ¬ iI (xP S c : Int) < (0 : Int32) := by rw [iL_0, iI_lt (by omega) (by omega) (by omega) (by omega)]; omega
    have k2 : ¬ (5 : Int32) < iI (xP S c : Int) + iI (xG S c : Int) := by rw [show (5 : Int32) = iI 5 from rfl, iI_add, iI_lt (by omega) (by omega) (by omega) (by omega)]; omega
    have k3 : ¬ (((5 : Int32) - iI (xG S c : Int)) - iI (xP S c : Int)) < iI ((rmm (xw S) (xL S) (xG S) (xP S) (xn S) c true : Nat) : Int) := by rw [show (5 : Int32) = iI 5 from rfl, iI_sub, iI_sub, iI_lt (by omega) (by omega) (by omega) (by omega)]; omega
    have k4 : ¬ iI (xP S c : Int) < iI ((rmm (xw S) (xL S) (xG S) (xP S) (xn S) c false : Nat) : Int) := by rw [iI_lt (by omega) (by omega) (by omega) (by omega)]; omega
    have s1 : iI ((fb_sm (xG S) c : Nat) : Int) + iI (xG S c : Int) = iI ((fb_sm (xG S) (c + 1) : Nat) : Int) := by rw [iI_add]; rfl
    have s2 : iI ((fuC (xG S) (xc S) (xb S) (xk S) c : Nat) : Int) + iI ((stps (xc S) (xb S) (xk S) c : Nat) : Int) * iI (xG S c : Int) = iI ((fuC (xG S) (xc S) (xb S) (xk S) (c + 1) : Nat) : Int) := by rw [iI_mul, iI_add]; rfl
    have s3 : iI ((allR (xw S) (xL S) (xG S) (xP S) (xn S) c : Nat) : Int) + (iI ((rmm (xw S) (xL S) (xG S) (xP S) (xn S) c true : Nat) : Int) + iI ((rmm (xw S) (xL S) (xG S) (xP S) (xn S) c false : Nat) : Int)) = iI ((allR (xw S) (xL S) (xG S) (xP S) (xn S) (c + 1) : Nat) : Int) := by rw [iI_add, iI_add]; rfl
    rw [s1, s2, s3, if_neg (show ¬ (1 : Int32) = 0 by decide), if_neg k1, if_neg k2]
    by_cases e : 0 < c
    · rw [if_pos (show (0 : Int32) < iI (c : Int) by rw [iL_0, iI_lt (by omega) (by omega) (by omega) (by omega)]; omega), cnn_16, tsN h hW hc, ob_s, ob2_s, if_pos rfl, rmN1 h hW hc, ob_s, if_neg k3, rmN0 h hW hc, ob_s, if_neg k4, ob2_s, s1_I, bnd_v]
      exact holds_L45 hW hL r q (c + 1) M (by omega) h
    · have hc0 : c = 0 := by omega
      have k5 : ¬ (5 : Int32) ≤ iI (xL S c : Int) := by
        have := hL.1.2.1 (show 0 < xn S by omega)
        have h0 : xL S c < 5 := by rw [hc0]; exact this
        rw [show (5 : Int32) = iI 5 from rfl, iI_le (by omega) (by omega) (by omega) (by omega)]; omega
      rw [if_neg (show ¬ (0 : Int32) < iI (c : Int) by rw [iL_0, iI_lt (by omega) (by omega) (by omega) (by omega)]; omega), if_neg k5, cnn_16, tsN h hW hc, ob_s, ob2_s, if_pos rfl, rmN1 h hW hc, ob_s, if_neg k3, rmN0 h hW hc, ob_s, if_neg k4, ob2_s, s1_I, bnd_v]
      exact holds_L45 hW hL r q (c + 1) M (by omega) h
theorem holds_ok (hW : WI S) (hL : LW S) {M : Wd} (h : CI S M) : OK S (F_L_holds M) := by
  have hn := hW.pk.n6
  have hk := hW.pk.k60
  have hp4 : pc 25 (xw S) ≤ 4 := hL.1.1
  obtain ⟨q, hq⟩ := fuelS (xn S) (by omega)
  have e4 : (if (6 : Int32) < iI (xn S : Int) then (0 : Int32) else if (4 : Int32) < iI ((pc 25 (xw S) : Nat) : Int) then (0 : Int32) else if (60 : Int32) < iI (xk S : Int) then (0 : Int32) else (1 : Int32)) = 1 := by
    rw [if_neg (show ¬ (6 : Int32) < iI (xn S : Int) by rw [show (6 : Int32) = iI 6 from rfl, iI_lt (by omega) (by omega) (by omega) (by omega)]; omega), if_neg (show ¬ (4 : Int32) < iI ((pc 25 (xw S) : Nat) : Int) by rw [show (4 : Int32) = iI 4 from rfl, iI_lt (by omega) (by omega) (by omega) (by omega)]; omega), if_neg (show ¬ (60 : Int32) < iI (xk S : Int) by rw [show (60 : Int32) = iI 60 from rfl, iI_lt (by omega) (by omega) (by omega) (by omega)]; omega)]
  unfold F_L_holds
  rw [lk_cars h, bnd_v, lk_walls h hW, lk_logged h, e4, bnd_v, hq]
  have hl := holds_L45 hW hL (K := fun v111 v112 v113 v114 M115 => if v114 = 0 then some ((0 : Int32), M115) else obind (F_X3_freeCells M115) fun v117 => if v117 = (((25 : Int32) - v111) - (F_X3_walls M115)) then obind (F_X3_possibleSlides M115) fun v122 => if v122 = v112 then obind (F_X3_fuel M115) fun v126 => if v126 = v113 then obind (F_X3_fuelByCars M115) fun v130 => if v130 = v113 then some ((1 : Int32), M115) else some ((0 : Int32), M115) else some ((0 : Int32), M115) else some ((0 : Int32), M115) else some ((0 : Int32), M115)) (xn S) q 0 M (Nat.zero_add _) h
  refine ⟨M, hl.trans ?_, h⟩
  have hf : iI ((25 : Int) - ((pc 25 (ocm (xw S) (xL S) (xG S) (xP S) (xn S)) : Nat) : Int)) = ((25 : Int32) - iI ((fb_sm (xG S) (xn S) : Nat) : Int)) - iI ((pc 25 (xw S) : Nat) : Int) := by
    rw [show (25 : Int32) = iI 25 from rfl, iI_sub, iI_sub, pc_ocm hW.pk.2.2.1 hW.pk.2.2.2.1]
    congr 1
    omega
  have hfu : fuC (xG S) (xc S) (xb S) (xk S) (xn S) = fuS (xG S) (xc S) (xb S) (xk S) := fu_same fun j hj => (hW.pk.lg hj).1
  show (if (1 : Int32) = 0 then _ else _) = _
  rw [if_neg (show ¬ (1 : Int32) = 0 by decide), lk_free h hW, ob_s, lk_walls h hW, if_pos hf, lk_poss h hW, ob_s, if_pos rfl, lk_fuel h hW, ob_s, hfu, if_pos rfl, lk_fuelC h hW, ob_s, if_pos rfl]
theorem plans_ok (hW : WI S) {M : Wd} (hC : CI S M) : OK S (F_L_plans M) := by
  have hw := hW.pk
  have hP := A_plans hw.n6 hw.2.1 hw.2.2.1 hw.vv
  have hc := A_cnt hw.n6 hw.2.1 hw.2.2.1 hw.vv
  have hE := A_end hw.n6 hw.2.1 hw.2.2.1 hw.vv
  have hps := A_poss hw.n6 hw.2.1 hw.2.2.1 hw.vv
  rw [← allR_len] at hps
  have hRE := isR_isE hw
  have f1 := few_d hW
  have f2 := steps_d hW
  have f3 := fuel_d hW
  have f4 := reach_d hW
  have f5 := fewE_d hW
  have f6 := fuelR_d hW
  have f7 := reachO_d hW
  have f8 := far_d hW
  have f9 := arr_d hW
  rw [← hE] at f5
  obtain ⟨y, hy⟩ : ∃ y, Aleast (xw S) (xL S) (xG S) (xn S) 3 (xs0 S) = y := ⟨_, rfl⟩
  obtain ⟨z, hz⟩ : ∃ y, Aleast (xw S) (xL S) (xG S) (xn S) 1 (xs0 S) = y := ⟨_, rfl⟩
  obtain ⟨u, hu⟩ : ∃ y, Afuel (xw S) (xL S) (xG S) (xn S) (xs0 S) = y := ⟨_, rfl⟩
  obtain ⟨a, ha⟩ : ∃ y, Acnt (xw S) (xL S) (xG S) (xn S) (xs0 S) = y := ⟨_, rfl⟩
  obtain ⟨b, hb⟩ : ∃ y, Aout (xw S) (xL S) (xG S) (xn S) (xs0 S) = y := ⟨_, rfl⟩
  obtain ⟨d, hd⟩ : ∃ y, Afar (xw S) (xL S) (xG S) (xn S) (xs0 S) = y := ⟨_, rfl⟩
  obtain ⟨e, he⟩ : ∃ y, Aall (xw S) (xL S) (xG S) (xn S) = y := ⟨_, rfl⟩
  rw [hy, hz, hu] at hP
  rw [ha, he, hb, hd, hy] at hc
  rw [ha] at hps
  rw [hy] at f1 f5
  rw [hz] at f2
  rw [hu] at f3 f6
  rw [ha] at f4
  rw [hb] at f7
  rw [hd] at f8
  rw [he] at f9
  obtain ⟨c1, c2, c3, c4, c5, c6, c7, c8, c9, c10⟩ := hc
  have sg : ∀ t : Int, -100000 < t → t < 100000 → (if (0 : Int32) ≤ iI t then (0 : Int32) else (1 : Int32)) = if 0 ≤ t then iI 0 else iI 1 := fun t t1 t2 => by
    rw [iL_0, if_le (by omega) (by omega) (by omega) (by omega)]; rfl
  unfold F_L_plans
  refine ok_d f1 hC (fun M hC => ?_)
  refine ok_d f2 hC (fun M hC => ?_)
  refine ok_d f3 hC (fun M hC => ?_)
  refine ok_d f4 hC (fun M hC => ?_)
  refine ok_d f5 hC (fun M hC => ?_)
  refine ok_o (S1 := S) ?_ (fun M hC => ?_)
  · refine ok_p rfl ?_
    refine ok_d f6 hC (fun M hC => ?_)
    refine ok_p rfl ?_
    rw [sg y (by omega) (by omega), sg z (by omega) (by omega), sg u (by omega) (by omega), bnd_v, bnd_v]
    refine ok_p ?_ ?_
    · by_cases h : 0 ≤ y
      · rw [if_pos h, if_pos (by omega)]
      · rw [if_neg h, if_neg (by omega)]
    rw [bnd_v, bnd_v]
    refine ok_p ?_ ?_
    · by_cases h : 0 ≤ y
      · rw [if_pos h, if_pos (by omega)]
      · rw [if_neg h, if_neg (by omega)]
    refine ok_d f7 hC (fun M hC => ?_)
    rw [bnd_v, bnd_v]
    refine ok_p ?_ ?_
    · by_cases h : 0 ≤ y
      · rw [if_pos h, if_neg (nz (by omega) (by omega) (fun q => by have := c6.mp q; omega))]; rfl
      · rw [if_neg h, c6.mpr (by omega)]; rfl
    refine ok_n (by rw [show (1 : Int32) = iI 1 from rfl, iI_lt (by omega) (by omega) (by omega) (by omega)]; omega) ?_
    refine ok_d f9 hC (fun M hC => ?_)
    refine ok_n (by rw [iI_lt (by omega) (by omega) (by omega) (by omega)]; omega) ?_
    refine ok_d f8 hC (fun M hC => ?_)
    refine ok_n (by rw [iI_le (by omega) (by omega) (by omega) (by omega)]; omega) ?_
    rw [lk_poss hC hW, ob_s]
    refine ok_n (by rw [iI_le (by omega) (by omega) (by omega) (by omega)]; omega) ?_
    exact ok_1 hC
  refine ok_n (by decide) ?_
  refine ok_c (fun _ => ok_1 hC) (fun h0 => ?_)
  rw [iL_0, iI_lt (by omega) (by omega) (by omega) (by omega)] at h0
  refine ok_n (by rw [iI_lt (by omega) (by omega) (by omega) (by omega)]; omega) ?_
  rw [show (3 : Int32) = iI 3 from rfl, iI_mul, iI_mul, show (2 : Int32) = iI 2 from rfl, iI_mul]
  refine ok_n (by rw [iI_lt (by omega) (by omega) (by omega) (by omega)]; omega) ?_
  refine ok_n (by rw [iI_lt (by omega) (by omega) (by omega) (by omega)]; omega) ?_
  refine ok_n (by rw [iI_lt (by omega) (by omega) (by omega) (by omega)]; omega) ?_
  refine ok_d f8 hC (fun M hC => ?_)
  refine ok_n (by rw [iI_lt (by omega) (by omega) (by omega) (by omega)]; have := c10 (by omega); omega) ?_
  rw [bnd_v, lk_isOut hC hW, hRE]
  refine ok_p ?_ (ok_1 hC)
  by_cases h : y = 0
  · rw [h, if_pos (show iI 0 = (0 : Int32) from rfl), if_pos (c7.mp h)]; rfl
  · rw [if_neg (nz (by omega) (by omega) h), if_neg (fun q => h (c7.mpr q))]; rfl
end HO

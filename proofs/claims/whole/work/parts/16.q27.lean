/-! ===== the next slide; what would be; driving out ===== -/
section PL
variable {n w k : Nat} {z : Int} {L P G lc : Nat → Nat} {lb : Nat → Int}
theorem Aend_lo {S : SS} (h : SrE w L G n S) {a : Nat} : -1 ≤ S.1 a := by
  obtain ⟨d, hI⟩ := h
  exact hI.1.lo a
theorem Aend_hi {S : SS} (h : SrE w L G n S) (hB : CB S) (hn : n ≤ 6) {a : Nat} : S.1 a ≤ 100000 := by
  obtain ⟨d, hI⟩ := h
  exact cb_le hB hI.1 (fun b hb => hb.1) hn a
/-- the class asks for the next slide -/
theorem cnext_I {M : Wd} (h : PkC 1 n w k z L P G lc lb M) (hW : PkW n w k z L P G lc lb) {S0 : SS} (hS0 : SrE w L G n S0) :
    (0 < S0.1 (enc P n) → ∀ x, NX1 w L G n S0.1 (enc P n) x → ∃ M', F_X3_hasNextSlide M = some (1, M') ∧ M'.1 44 10 = iI ((x / 7 : Nat) : Int) ∧ M'.1 44 11 = iI (((x % 7 : Nat) : Int) - 3) ∧ frX M M') ∧
    (¬ 0 < S0.1 (enc P n) → ∃ M', F_X3_hasNextSlide M = some (0, M') ∧ frX M M') := by
  obtain ⟨M1, f1, f2, f3, f4⟩ := explore_I h hW
  obtain ⟨M2, S, g1, g2, g3, g4, g5, g6, g7⟩ := cends_I f2 f3 hW.vv
  have e := (g4.eq hS0).1
  unfold F_X3_hasNextSlide
  constructor
  · intro hp x hx
    rw [← e] at hp hx
    refine ⟨upI (upI M2 44 10 (iI ((x / 7 : Nat) : Int))) 44 11 (iI (((x % 7 : Nat) : Int) - 3)), ?_, ?_, ?_, (f4.tr g7).tr (N := M2) ⟨fun c hc => ?_, ?_⟩⟩
    · rw [f1, ob_s, g1, ob2_s, g6, cnext_y g5 g2 g4 g3 hW.vv hp hx, ob2_s]
    · rw [upI_at, if_neg (by decide), upI_at, if_pos rfl]
    · rw [upI_at, if_pos rfl]
    · rw [upI_row_ne (by omega), upI_row_ne (by omega)]
    · rfl
  · intro hp
    rw [← e] at hp
    refine ⟨M2, ?_, f4.tr g7⟩
    rw [f1, ob_s, g1, ob2_s, g6, cnext_n g5 g2 g4 hW.vv hp, ob2_s]
theorem mnext_I {M : Wd} (h : PkM 55 0 n w k z L P G lc lb M) (hW : PkW n w k z L P G lc lb) {S0 : SS} (hS0 : SrE w L G n S0) :
    (0 < S0.1 (enc P n) → ∀ x, NX1 w L G n S0.1 (enc P n) x → ∃ M', F_X4_nextSlide M = some (iI (8 * ((x / 7 : Nat) : Int) + (((x % 7 : Nat) : Int) - 3) + 3), M') ∧ M'.1 53 0 = iI 0 ∧ (∀ S, MI' S M → MI' S M') ∧ frMo M M') ∧
    (¬ 0 < S0.1 (enc P n) → ∃ M', F_X4_nextSlide M = some (0, M') ∧ M'.1 53 0 = iI 1 ∧ (∀ S, MI' S M → MI' S M') ∧ frMo M M') := by
  obtain ⟨M1, S, f1, f2, f3, f4, f5, f6, f7⟩ := mplan_I h hW
  have e := (f3.eq hS0).1
  have hlo := Aend_lo f3 (a := enc P n)
  have hhi := Aend_hi f3 f4 hW.n6 (a := enc P n)
  unfold F_X4_nextSlide
  rw [f1, Aend_eq f3, ob2_s, iL_0, if_le (by omega) (by omega) (by omega) (by omega)]
  constructor
  · intro hp x hx
    rw [← e] at hp hx
    have hx1 := hx.1
    have hn0 : n ≠ 0 := by omega
    refine ⟨upI M1 53 0 (iI 0), ?_, by rw [upI_at, if_pos rfl], fun S hS => (hS.fry f7).ref, f7.mo.tr mo_ref⟩
    rw [if_neg (by omega), bnd_v, if_neg (show ¬ (1 : Int32) = iI 0 by decide), bnd_v]
    show obind2 (F_X4_refused (iI 0) M1) _ = _
    have hP : PM w n L G (upI M1 53 0 (iI 0)) := by
      obtain ⟨p0, p1, p2, p3, p4⟩ := f5
      exact ⟨p0, by rw [upI_at, if_neg (by decide)]; exact p1, by rw [upI_at, if_neg (by decide)]; exact p2, fun i hi => by rw [upI_of (by decide)]; exact p3 i hi, fun k q hk hq => by rw [upI_of (by decide)]; exact p4 k q hk hq⟩
    have hS2 : SM (upI M1 53 0 (iI 0)) S := by
      obtain ⟨s1, s2, s3⟩ := f2 hn0
      exact ⟨fun a ha => by rw [upI_of (by decide)]; exact s1 a ha, fun j hj => by rw [upI_of (by decide)]; exact s2 j hj, by rw [upI_at, if_neg (by decide)]; exact s3⟩
    have hm : PkM 55 0 n w k z L P G lc lb (upI M1 53 0 (iI 0)) := pM.row (s := (n, w, k, z, L, P, G, lc, lb)) f6 (upI_row_ne (by decide))
    rw [refused_0, ob2_s, if_pos (show (0 : Int32) = iI 0 from rfl), mnext_y hm hW hP hS2 f3 f4 hp hx, ob_s]
  · intro hp
    rw [← e] at hp
    refine ⟨upI M1 53 0 (iI 1), ?_, by rw [upI_at, if_pos rfl], fun S hS => (hS.fry f7).ref, f7.mo.tr mo_ref⟩
    rw [if_pos (by omega), bnd_v, if_pos (show iI 0 = iI 0 from rfl), bnd_v]
    rfl
end PL
theorem d8_I {x : Nat} (hx : x < 1000) : iI (8 * ((x / 7 : Nat) : Int) + (((x % 7 : Nat) : Int) - 3) + 3) / (8 : Int32) = iI ((x / 7 : Nat) : Int) ∧ (iI (8 * ((x / 7 : Nat) : Int) + (((x % 7 : Nat) : Int) - 3) + 3) - iI (8 * ((x / 7 : Nat) : Int) + (((x % 7 : Nat) : Int) - 3) + 3) / (8 : Int32) * (8 : Int32)) - (3 : Int32) = iI (((x % 7 : Nat) : Int) - 3) := by
  obtain ⟨y, hy⟩ : ∃ y : Nat, 8 * ((x / 7 : Nat) : Int) + (((x % 7 : Nat) : Int) - 3) + 3 = y := ⟨8 * (x / 7) + x % 7, by omega⟩
  rw [hy, show (8 : Int32) = iI ((8 : Nat) : Int) from rfl, iI_div _ _ (by omega) (by decide) (by decide), show (3 : Int32) = iI 3 from rfl, iI_mul, iI_sub, iI_sub, show y / 8 = x / 7 by omega]
  refine ⟨rfl, ?_⟩
  congr 1
  omega
theorem t_nextCar : TwoX F_L_nextCar_0_62 F_X4_nextCar := by
  rintro M ⟨⟨⟨n, w, k, z, L, P, G, lc, lb⟩, kp, kf, c, sv, tl, tc⟩, hW, hC, hM⟩
  have h : PkC 1 n w k z L P G lc lb M := hC.1
  have hw : PkW n w k z L P G lc lb := hW.1
  have hn := hw.n6
  obtain ⟨S0, hS0⟩ := SrE_ex hn hw.2.1 hw.2.2.1
  by_cases e : 0 < S0.1 (enc P n)
  · obtain ⟨x, hx⟩ := NX1_ex hS0 hw.vv e
    have hx1 := hx.1
    obtain ⟨M1, g1, g2, g3, g4⟩ := (cnext_I h hw hS0).1 e x hx
    refine two_ok (S' := ((n, w, k, z, L, P, G, lc, lb), kp, kf, c, sv, tl, tc)) hM hW (v := iI ((x / 7 : Nat) : Int)) (M1 := M1) ?_ (hC.frx hW.2.2.1 g4) g4.cl (fun N hN => ?_)
    · unfold F_L_nextCar_0_62 F_X3_nextCar
      rw [g1, ob2_s, if_neg (by decide), g2, obX_l]
      rfl
    · obtain ⟨N1, q1, q2, q3, q4⟩ := (mnext_I (M := N) hN.1 hw hS0).1 e x hx
      refine ⟨N1, ?_, q3 _ hN, q4, q2⟩
      unfold F_X4_nextCar
      rw [q1, ob2_s, (d8_I (by omega)).1]
  · obtain ⟨M1, g1, g4⟩ := (cnext_I h hw hS0).2 e
    refine two_ex (S := ((n, w, k, z, L, P, G, lc, lb), kp, kf, c, sv, tl, tc)) (k := iI 1) hM hW (by decide) (M1 := M1) ?_ (hC.frx hW.2.2.1 g4) g4.cl (fun N hN => ?_)
    · unfold F_L_nextCar_0_62 F_X3_nextCar
      rw [g1, ob2_s, if_pos rfl, obX_r]
      rfl
    · obtain ⟨N1, q1, q2, q3, q4⟩ := (mnext_I (M := N) hN.1 hw hS0).2 e
      refine ⟨0, N1, ?_, q3 _ hN, q4, q2⟩
      unfold F_X4_nextCar
      rw [q1]
      rfl
theorem t_nextChange : TwoX F_L_nextChange_0_62 F_X4_nextChange := by
  rintro M ⟨⟨⟨n, w, k, z, L, P, G, lc, lb⟩, kp, kf, c, sv, tl, tc⟩, hW, hC, hM⟩
  have h : PkC 1 n w k z L P G lc lb M := hC.1
  have hw : PkW n w k z L P G lc lb := hW.1
  have hn := hw.n6
  obtain ⟨S0, hS0⟩ := SrE_ex hn hw.2.1 hw.2.2.1
  by_cases e : 0 < S0.1 (enc P n)
  · obtain ⟨x, hx⟩ := NX1_ex hS0 hw.vv e
    have hx1 := hx.1
    obtain ⟨M1, g1, g2, g3, g4⟩ := (cnext_I h hw hS0).1 e x hx
    refine two_ok (S' := ((n, w, k, z, L, P, G, lc, lb), kp, kf, c, sv, tl, tc)) hM hW (v := iI (((x % 7 : Nat) : Int) - 3)) (M1 := M1) ?_ (hC.frx hW.2.2.1 g4) g4.cl (fun N hN => ?_)
    · unfold F_L_nextChange_0_62 F_X3_nextChange
      rw [g1, ob2_s, if_neg (by decide), g3, obX_l]
      rfl
    · obtain ⟨N1, q1, q2, q3, q4⟩ := (mnext_I (M := N) hN.1 hw hS0).1 e x hx
      refine ⟨N1, ?_, q3 _ hN, q4, q2⟩
      unfold F_X4_nextChange
      rw [q1, ob2_s, q2, if_pos (by decide), (d8_I (by omega)).2]
  · obtain ⟨M1, g1, g4⟩ := (cnext_I h hw hS0).2 e
    refine two_ex (S := ((n, w, k, z, L, P, G, lc, lb), kp, kf, c, sv, tl, tc)) (k := iI 1) hM hW (by decide) (M1 := M1) ?_ (hC.frx hW.2.2.1 g4) g4.cl (fun N hN => ?_)
    · unfold F_L_nextChange_0_62 F_X3_nextChange
      rw [g1, ob2_s, if_pos rfl, obX_r]
      rfl
    · obtain ⟨N1, q1, q2, q3, q4⟩ := (mnext_I (M := N) hN.1 hw hS0).2 e
      refine ⟨0, N1, ?_, q3 _ hN, q4, q2⟩
      unfold F_X4_nextChange
      rw [q1, ob2_s, q2, if_neg (by decide)]
theorem EL.st {w n : Nat} {L G : Nat → Nat} {M : Wd} {v : Int32} (h : EL w n L G M) : EL w n L G (upI M 44 8 v) := by
  obtain ⟨h0, h1, h2, h3, h4⟩ := h
  exact ⟨h0, by rw [upI_at, if_neg (by decide)]; exact h1, by rw [upI_at, if_neg (by decide)]; exact h2, fun i hi => by rw [upI_of (by decide)]; exact h3 i hi, fun a ha => by rw [upI_of (by decide)]; exact h4 a ha⟩
theorem t_fewestBehind (a d : Int32) : TwoX (F_L_fewestBehind_0_62 a d) (F_X4_fewestBehind a d) := by
  rintro M ⟨⟨⟨n, w, k, z, L, P, G, lc, lb⟩, kp, kf, c, sv, tl, tc⟩, hW, hC, hM⟩
  have h : PkC 1 n w k z L P G lc lb M := hC.1
  have hw : PkW n w k z L P G lc lb := hW.1
  have hn := hw.n6
  obtain ⟨x, x1, x2, rfl⟩ := iI_ex a
  obtain ⟨b, b1, b2, rfl⟩ := iI_ex d
  have fail : ∀ j : Nat, tS n w L G P x b = j → j = 1 ∨ j = 2 ∨ j = 3 → ∃ k M1 b' M2, F_L_fewestBehind_0_62 (iI x) (iI b) M = some (k, M1) ∧ F_X4_fewestBehind (iI x) (iI b) M1 = some (b', M2) ∧ M2.1 53 0 = k ∧ (k = 0 → M2.2.1 62 0 = b'.toInt64) ∧ Inv M2 := fun j e hj => by
    refine failX (j := j) (by omega) (by omega) hC hM hW ?_ (fun N hN => ?_)
    · unfold F_L_fewestBehind_0_62 F_X3_fewestBehind
      rw [cslide_t h hw x1 x2 b1 b2, ob_s, e]
      rcases hj with rfl | rfl | rfl <;> rfl
    · unfold F_X4_fewestBehind
      rw [mslide_t (M := N) hN.1 hw x1 x2 b1 b2, if_neg (show ¬ tS n w L G P x b = 0 by omega), ob_s, e, refused_k (by omega) (by omega), ob2_s]
      rfl
  rcases tS_3 (n := n) (w := w) (L := L) (G := G) (P := P) (c := x) (b := b) with e | e | e | e
  · obtain ⟨e1, e2, e3⟩ := tS_0 e
    obtain ⟨i, rfl⟩ : ∃ i : Nat, x = i := ⟨x.toNat, by omega⟩
    rw [Int.toNat_natCast] at e3
    have hi : i < n := by omega
    obtain ⟨q, q1, q2, q3, q4⟩ := slide_y hw hi e2.1 e2.2.1 e3
    obtain ⟨M1, f1, f2, f3, f4⟩ := explore_I h hw
    have hvv : VV w L G n (enc (updN P i q) n) := by
      have h4 : ∀ j, j < n → updN P i q j < 4 := fun j hj => by
        unfold updN
        split
        · exact q2
        · exact hw.P4 hj
      exact ⟨enc_lt h4, by rw [okc_enc h4]; exact q3⟩
    obtain ⟨M2, g1, g2, g3, g4⟩ := cslides_I (M := upI M1 44 8 (iI ((enc (updN P i q) n : Nat) : Int))) f2.st (by rw [upI_at, if_pos rfl]) hvv
    have hfr : frX M M2 := (f4.tr (N := M1) (O := upI M1 44 8 (iI ((enc (updN P i q) n : Nat) : Int))) ⟨fun c hc => upI_row_ne (by omega), rfl⟩).tr g4
    refine two_ok (S' := ((n, w, k, z, L, P, G, lc, lb), kp, kf, c, sv, tl, tc)) hM hW (v := iI (Aleast w L G n 3 (enc (updN P i q) n))) (M1 := M2) ?_ (hC.frx hW.2.2.1 hfr) hfr.cl (fun N hN => ?_)
    · unfold F_L_fewestBehind_0_62 F_X3_fewestBehind
      rw [cslide_t h hw x1 x2 b1 b2, ob_s, e]
      show obindX (obindX (F_X3_refuse (iI 0) M) _ _) _ _ = _
      rw [refuse_0, obX_l, f1, ob_s, f3, bslide_I f2 hi hw.elt e2.1 e2.2.1, ob_s, q4]
      show obindX (obind2 (F_X0_slidesFromStart (upI M1 44 8 (iI ((enc (updN P i q) n : Nat) : Int)))) _) _ _ = _
      rw [g1, ob2_s, obX_l]
      rfl
    · have hm : PkM 55 0 n w k z L P G lc lb (upI N 53 0 (iI 0)) := (hN.ref (v := iI 0)).1
      obtain ⟨N1, r1, r2, r3, r4, r5⟩ := mprep_I hm hw
      obtain ⟨N2, S, t1, t2, t3, t4, t5, t6⟩ := mfrom_I (m := 3) (by decide) r2 hvv
      refine ⟨N2, ?_, ((hN.ref (v := iI 0)).fry r5).fry t6, (mo_ref.tr r5.mo).tr t6.mo, by rw [t6.2.1 0 (by decide) (by decide) (by decide), r5.2.1 0 (by decide) (by decide) (by decide), upI_at, if_pos rfl]⟩
      unfold F_X4_fewestBehind
      rw [mslide_t (M := N) hN.1 hw x1 x2 b1 b2, if_pos e, ob_s]
      show obind2 (F_X4_refused (iI 0) N) _ = _
      rw [refused_0, ob2_s, if_pos rfl, r1, ob_s, r4, ob_s, enc_move (P := P) hi hn (fun j hj => hw.P4 hj) q2 q1 e2.1 e2.2.1, show (3 : Int32) = iI ((3 : Nat) : Int) from rfl, t1, ob_s, mleast_I t5 t2 t3 t4, ob_s]
  · exact fail 1 e (by omega)
  · exact fail 2 e (by omega)
  · exact fail 3 e (by omega)
theorem t_fewestWithoutLast : TwoX F_L_fewestWithoutLast_0_62 F_X4_fewestWithoutLast := by
  rintro M ⟨⟨⟨n, w, k, z, L, P, G, lc, lb⟩, kp, kf, c, sv, tl, tc⟩, hW, hC, hM⟩
  have h : PkC 1 n w k z L P G lc lb M := hC.1
  have hw : PkW n w k z L P G lc lb := hW.1
  have hn := hw.n6
  by_cases e : 2 ≤ n
  · have hok : okb w L G P (n - 1) = true := okb_le hw.2.2.2.1 (by omega)
    have hvv := encm_vv hw (show n - 1 ≤ n by omega) hok
    obtain ⟨M1, f1, f2, f3, f4⟩ := load_I h hw (show n - 1 ≤ n by omega) hw.2.1
    obtain ⟨M2, g1, g2, g3, g4⟩ := cslides_I f2 f3 hvv
    have e1 : (n : Int) - 1 = ((n - 1 : Nat) : Int) := by omega
    refine two_ok (S' := ((n, w, k, z, L, P, G, lc, lb), kp, kf, c, sv, tl, tc)) hM hW (v := iI (Aleast w L G (n - 1) 3 (enc P (n - 1)))) (M1 := M2) ?_ (hC.frx hW.2.2.1 (f4.tr g4)) (f4.tr g4).cl (fun N hN => ?_)
    · unfold F_L_fewestWithoutLast_0_62 F_X3_fewestWithoutLast
      rw [h.vn, h.vw, show (2 : Int32) = iI 2 from rfl, if_le (by omega) (by omega) (by omega) (by omega), if_pos (by omega), iL_1, iI_sub, e1, f1, ob_s, g1, ob2_s, obX_l]
      rfl
    · have hm0 : PkM 55 0 n w k z L P G lc lb N := hN.1
      have hm : PkM 55 0 n w k z L P G lc lb (upI N 53 0 (iI 0)) := (hN.ref (v := iI 0)).1
      obtain ⟨N1, r1, r2, r3⟩ := prep_I hm hw (show n - 1 ≤ n by omega) hw.2.1
      have hm1 := hm.fry (Or.inl rfl) r3.Y
      obtain ⟨N2, S, t1, t2, t3, t4, t5, t6⟩ := mfrom_I (m := 3) (by decide) r2 hvv
      refine ⟨N2, ?_, ((hN.ref (v := iI 0)).fry r3.Y).fry t6, (mo_ref.tr r3.Y.mo).tr t6.mo, by rw [t6.2.1 0 (by decide) (by decide) (by decide), r3.2.1 0 (by decide) (by decide), upI_at, if_pos rfl]⟩
      unfold F_X4_fewestWithoutLast
      rw [hm0.vn, iL_1, if_le (by omega) (by omega) (by omega) (by omega), if_neg (by omega), bnd_v]
      show obind2 (F_X4_refused (iI 0) N) _ = _
      rw [refused_0, ob2_s, if_pos rfl, hm.vn, hm.vw, iI_sub, e1, r1, ob_s, code_I r2 (fun i hi => hm1.vP (by omega)) (fun i hi => hw.P4 (by omega)), ob_s, show (3 : Int32) = iI ((3 : Nat) : Int) from rfl, t1, ob_s, mleast_I t5 t2 t3 t4, ob_s]
  · refine failX (j := 1) (by decide) (by decide) hC hM hW ?_ (fun N hN => ?_)
    · unfold F_L_fewestWithoutLast_0_62 F_X3_fewestWithoutLast
      rw [h.vn, show (2 : Int32) = iI 2 from rfl, if_le (by omega) (by omega) (by omega) (by omega), if_neg (by omega)]
      rfl
    · have hm0 : PkM 55 0 n w k z L P G lc lb N := hN.1
      unfold F_X4_fewestWithoutLast
      rw [hm0.vn, iL_1, if_le (by omega) (by omega) (by omega) (by omega), if_pos (by omega), bnd_v]
      rfl
theorem okb_w {w x n : Nat} {L G P : Nat → Nat} (h : okb w L G P n = true) (hx : (ocm w L G P n).testBit x = false) : okb (w ||| 2 ^ x) L G P n = true := by
  have hok := okb_iff.mp h
  refine okb_iff.mpr ⟨hok.1, fun i hi y hy => ?_, hok.2.2⟩
  obtain ⟨y1, y2⟩ := hy
  rw [fb_bit_set, Bool.or_eq_true, decide_eq_true_eq] at y1
  rcases y1 with y1 | rfl
  · exact hok.2.1 i hi y ⟨y1, y2⟩
  · have := (ocm_bit (w := w) (L := L) (G := G) (p := P) (x := y) (n := n)).mpr (Or.inr ⟨i, hi, y2⟩)
    rw [this] at hx; cases hx
theorem t_fewestWithWall (a : Int32) : TwoX (F_L_fewestWithWall_0_62 a) (F_X4_fewestWithWall a) := by
  rintro M ⟨⟨⟨n, w, k, z, L, P, G, lc, lb⟩, kp, kf, c, sv, tl, tc⟩, hW, hC, hM⟩
  have h : PkC 1 n w k z L P G lc lb M := hC.1
  have hw : PkW n w k z L P G lc lb := hW.1
  have hn := hw.n6
  have ho := hw.oc
  obtain ⟨x, x1, x2, rfl⟩ := iI_ex a
  by_cases e : 0 ≤ x ∧ x < 25
  · obtain ⟨i, rfl⟩ : ∃ i : Nat, x = i := ⟨x.toNat, by omega⟩
    cases e2 : (ocm w L G P n).testBit i with
    | true =>
      refine failX (j := 2) (by decide) (by decide) hC hM hW ?_ (fun N hN => ?_)
      · unfold F_L_fewestWithWall_0_62 F_X3_fewestWithWall
        rw [isCell_I x1 x2, i10_eq0, if_pos e, taken_I h hw, ob_s, cbit_I (by omega) (by omega), if_pos e2]
        rfl
      · have hm0 : PkM 55 0 n w k z L P G lc lb N := hN.1
        unfold F_X4_fewestWithWall
        rw [misCell_I x1 x2, i10_eq0, if_pos e, occ_I hm0 hw, ob_s, mbit_I (by omega) (by omega), i10_eq1, if_pos e2, ob_s]
        rfl
    | false =>
      have hww : w ||| 2 ^ i < 33554432 := Nat.or_lt_two_pow (n := 25) hw.2.1 (Nat.pow_lt_pow_right (by decide) (by omega))
      have hok := okb_w hw.2.2.2.1 e2
      have hvv := encm_vv hw (Nat.le_refl n) hok
      have e3 : iI (w : Int) ||| ((1 : Int32) <<< (iI (i : Int) &&& 31)) = iI ((w ||| 2 ^ i : Nat) : Int) := by
        rw [show (1 : Int32) = iI ((1 : Nat) : Int) from rfl, iI_shl _ _ (by omega), Nat.one_mul, iI_or]
      obtain ⟨M1, f1, f2, f3, f4⟩ := load_I h hw (Nat.le_refl n) hww
      obtain ⟨M2, g1, g2, g3, g4⟩ := cslides_I f2 f3 hvv
      refine two_ok (S' := ((n, w, k, z, L, P, G, lc, lb), kp, kf, c, sv, tl, tc)) hM hW (v := iI (Aleast (w ||| 2 ^ i) L G n 3 (enc P n))) (M1 := M2) ?_ (hC.frx hW.2.2.1 (f4.tr g4)) (f4.tr g4).cl (fun N hN => ?_)
      · unfold F_L_fewestWithWall_0_62 F_X3_fewestWithWall
        rw [isCell_I x1 x2, i10_eq0, if_pos e, taken_I h hw, ob_s, cbit_I (by omega) (by omega), if_neg (by rw [e2]; decide), h.vn, h.vw, e3, f1, ob_s, g1, ob2_s, obX_l]
        rfl
      · have hm : PkM 55 0 n w k z L P G lc lb (upI N 53 0 (iI 0)) := (hN.ref (v := iI 0)).1
        have hun : F_X4_fewestWithWall (iI (i : Int)) N = (if (iI (n : Int)) = 0 then some ((-1 : Int32), upI N 53 0 (iI 0)) else obind (F_X4_prepares (iI (n : Int)) (iI ((w ||| 2 ^ i : Nat) : Int)) (upI N 53 0 (iI 0))) fun M15 => obind (F_X4_codeNow M15) fun v17 => obind (F_X4_from v17 (3 : Int32) M15) fun M20 => obind (F_X4_leastEnd M20) fun v22 => some (v22, M20)) := by
          have hm0 : PkM 55 0 n w k z L P G lc lb N := hN.1
          unfold F_X4_fewestWithWall
          rw [misCell_I x1 x2, i10_eq0, if_pos e, occ_I hm0 hw, ob_s, mbit_I (by omega) (by omega), i10_eq1, if_neg (by rw [e2]; decide), ob_s]
          show obind2 (F_X4_refused (iI 0) N) _ = _
          rw [refused_0, ob2_s, if_pos rfl, hm.vn, hm.vw, e3]
        rw [hun, n0_I hn]
        by_cases e4 : n = 0
        · subst e4
          obtain ⟨S, hS⟩ := SrS_ex (m := 3) (by decide) hn hww hw.2.2.1 hvv
          rw [if_pos rfl, Aleast_0 hS]
          exact ⟨_, rfl, hN.ref, mo_ref, by rw [upI_at, if_pos rfl]⟩
        · rw [if_neg e4]
          obtain ⟨N1, r1, r2, r3⟩ := prep_I hm hw (Nat.le_refl n) hww
          have hm1 := hm.fry (Or.inl rfl) r3.Y
          obtain ⟨N2, S, t1, t2, t3, t4, t5, t6⟩ := mfrom_I (m := 3) (by decide) r2 hvv
          refine ⟨N2, ?_, ((hN.ref (v := iI 0)).fry r3.Y).fry t6, (mo_ref.tr r3.Y.mo).tr t6.mo, by rw [t6.2.1 0 (by decide) (by decide) (by decide), r3.2.1 0 (by decide) (by decide), upI_at, if_pos rfl]⟩
          rw [r1, ob_s, code_I r2 (fun i hi => hm1.vP hi) (fun i hi => hw.P4 hi), ob_s, show (3 : Int32) = iI ((3 : Nat) : Int) from rfl, t1, ob_s, mleast_I t5 t2 t3 t4, ob_s]
  · refine failX (j := 1) (by decide) (by decide) hC hM hW ?_ (fun N hN => ?_)
    · unfold F_L_fewestWithWall_0_62 F_X3_fewestWithWall
      rw [isCell_I x1 x2, i10_eq0, if_neg e]
      rfl
    · unfold F_X4_fewestWithWall
      rw [misCell_I x1 x2, i10_eq0, if_neg e]
      rfl

/-! ===== driving out ===== -/
section DR
variable {S : Wst}
theorem PLn_first {co : Nat → Int} {r n w k x : Nat} {z : Int} {L P G lc : Nat → Nat} {lb : Nat → Int} {s' : Pst} (h : PLn co (r + 1) (n, w, k, z, L, P, G, lc, lb) s') (hx : NX1 w L G n co (enc P n) x) : s'.2.2.2.2.2.2.2.1 k = x / 7 ∧ s'.2.2.2.2.2.2.2.2 k = ((x % 7 : Nat) : Int) - 3 := by
  obtain ⟨y, q, hy, -, -, -, -, -, h7⟩ := h
  have e : y = x := by
    by_cases e1 : y < x
    · exact absurd hy.2.1 (hx.2.2 y e1)
    · by_cases e2 : x < y
      · exact absurd hx.2.1 (hy.2.2 x e2)
      · omega
  subst e
  have h8 := (PLn_eq r _ _ _ _ _ _ _ _ _ _ h7).2.2.2.2.2.2.2 k (by omega)
  rw [updN_s, updZ_s] at h8
  exact h8
theorem drives_ok (hW : WI S) (hL : LW S) : ∃ S', WI S' ∧ LW S' ∧ ∀ M : Wd2, CI S M.1 → CI S M.2 → OK2 S' (F_L_drives M) := by
  have hw := hW.pk
  have hn := hw.n6
  have hk := hw.k60
  obtain ⟨S0, hS0⟩ := SrE_ex hn hw.2.1 hw.2.2.1 hw.vv
  have hAE := A_end hn hw.2.1 hw.2.2.1 hw.vv
  have hE := Aend_eq (s := xs0 S) hS0
  have hlo := Aend_lo hS0 (a := xs0 S)
  have hcn := A_cnt hn hw.2.1 hw.2.2.1 hw.vv
  have f1 := few_d hW
  rw [hAE, hE] at f1
  have hhi : S0.1 (xs0 S) < 100000 := by
    obtain ⟨c1, c2, c3, -, -, -, -, -, c9, c10⟩ := hcn
    rw [hAE, hE] at c10
    by_cases e : 0 ≤ S0.1 (xs0 S)
    · have := c10 e; omega
    · omega
  have dno : ¬ (0 ≤ S0.1 (xs0 S) ∧ (xk S : Int) + S0.1 (xs0 S) ≤ 60) → Dt S F_L_tryDrive (iI (xr 3)) S := fun e => drive_no hW (by
    unfold drv
    rw [hE]
    by_cases e2 : (xk S : Int) + S0.1 (xs0 S) ≤ 60
    · rw [if_pos e2]; omega
    · rw [if_neg e2]; omega)
  by_cases e0 : S0.1 (xs0 S) < 0
  · refine ⟨S, hW, hL, fun M h1 h2 => ?_⟩
    have dn := dno (by omega)
    unfold F_L_drives
    refine ok2_d f1 h1 (fun M1 h1 => ?_)
    rw [bnd_v]
    refine ok2_p (by rw [iL_0, iI_lt (by omega) (by omega) (by omega) (by omega)]; omega) ?_
    rw [cn_4]
    refine ok2_d dn h1 (fun M1 h1 => ?_)
    refine ok2_p rfl ?_
    rw [cn_4]
    refine ok2_d dn h2 (fun M2 h2 => ?_)
    refine ok2_p rfl ?_
    exact ok2_1 h1 h2
  by_cases e1 : (xk S : Int) + S0.1 (xs0 S) ≤ 60
  · obtain ⟨r, hr⟩ : ∃ r : Nat, S0.1 (xs0 S) = (r : Int) := ⟨(S0.1 (xs0 S)).toNat, by omega⟩
    obtain ⟨s', p1, p2⟩ := pl_ex hS0 r (xk S) (xP S) (xc S) (xb S) hw hr (by omega)
    obtain ⟨hW1, d1⟩ := drive_y hW hS0 hr (show xk S + r ≤ 60 by omega) p1 p2
    have pe := PLn_eq r _ _ _ _ _ _ _ _ _ _ p1
    have hL1 : LW (setN (savS S) s') := hL.sav.now (LX_of pe.1 pe.2.1 pe.2.2.2.1 pe.2.2.2.2.1 hL.1)
    have hpf : ∀ (r' x : Nat), r = r' + 1 → NX1 (xw S) (xL S) (xG S) (xn S) S0.1 (xs0 S) x → s'.2.2.2.2.2.2.2.1 (xk S) = x / 7 ∧ s'.2.2.2.2.2.2.2.2 (xk S) = ((x % 7 : Nat) : Int) - 3 := fun r' x e hx => by
      subst e
      exact PLn_first p1 hx
    obtain ⟨n', w', k', z', L', P', G', lc', lb'⟩ := s'
    obtain ⟨q1, q2, q3, q4, q5, q6, q7, -⟩ := pe
    have q1' : n' = xn S := q1
    have q2' : w' = xw S := q2
    have q3' : k' = xk S + r := q3
    have q5' : L' = xL S := q5
    have q6' : G' = xG S := q6
    have q7' : S0.1 (enc P' (xn S)) = S0.1 (xs0 S) - (r : Int) := q7
    subst q1' q2' q5' q6'
    obtain ⟨S1, hS1⟩ : ∃ S1, setN (savS S) (xn S, xw S, k', z', xL S, P', xG S, lc', lb') = S1 := ⟨_, rfl⟩
    have x1n : xn S1 = xn S := by rw [← hS1]; rfl
    have x1w : xw S1 = xw S := by rw [← hS1]; rfl
    have x1k : xk S1 = k' := by rw [← hS1]; rfl
    have x1L : xL S1 = xL S := by rw [← hS1]; rfl
    have x1P : xP S1 = P' := by rw [← hS1]; rfl
    have x1G : xG S1 = xG S := by rw [← hS1]; rfl
    have x1c : xc S1 = lc' := by rw [← hS1]; rfl
    have x1b : xb S1 = lb' := by rw [← hS1]; rfl
    have x1C : sC S1 = sC (savS S) := by rw [← hS1]; rfl
    have x1V : sV S1 = sV (savS S) := by rw [← hS1]; rfl
    rw [hS1] at hW1 d1 hL1
    have hC1 : 1 ≤ sC S1 := by rw [x1C]; exact sav_pos hW.c5
    have hNN : sN (oUndo S1) = sN S := by
      show sV S1 (sC S1 - 1) = sN S
      rw [x1V, x1C, sav_top hW.c5]
    have hWu := undo_WI hW1 (by omega)
    have hLu := hL1.undo (by omega)
    have hw1 := hW1.pk
    -- out, behind it
    have hz1 : S0.1 (enc P' (xn S)) = 0 := by omega
    have f2 : Dt S1 F_X3_fewestSlides (iI 0) S1 := by
      have h := few_d hW1
      have hA1 := A_end hw1.n6 hw1.2.1 hw1.2.2.1 hw1.vv
      rw [hA1] at h
      rw [show Aend (xw S1) (xL S1) (xG S1) (xn S1) (xs0 S1) = 0 by
        show Aend (xw S1) (xL S1) (xG S1) (xn S1) (enc (xP S1) (xn S1)) = 0
        rw [x1w, x1L, x1G, x1n, x1P, Aend_eq hS0, hz1]] at h
      exact h
    have hout : isR (xn S1) (xP S1) (xG S1) = true := by
      rw [isR_isE hw1, x1G, x1n, x1P]
      obtain ⟨d, hI⟩ := hS0
      exact (hI.2.2.2.2.2.2.2 _ hz1).2.1
    have f3 : Dt (oUndo S1) F_X3_fewestSlides (iI (r : Int)) (oUndo S1) := by
      have h := few_d hWu
      obtain ⟨y1, y2, y3, y4, y5, y6⟩ := xN_of hNN
      rw [show Aleast (xw (oUndo S1)) (xL (oUndo S1)) (xG (oUndo S1)) (xn (oUndo S1)) 3 (xs0 (oUndo S1)) = (r : Int) by
        show Aleast (xw (oUndo S1)) (xL (oUndo S1)) (xG (oUndo S1)) (xn (oUndo S1)) 3 (enc (xP (oUndo S1)) (xn (oUndo S1))) = (r : Int)
        rw [y1, y2, y4, y5, y6, hAE, hE, hr]] at h
      exact h
    rw [hr] at f1
    have tail : ∀ {M : Wd2}, CI S1 M.1 → CI S1 M.2 → OK2 (oUndo S1) (obind2 (F_L_undoes (1 : Int32) M) fun v74 M75 => if v74 = 0 then some ((0 : Int32), M75) else if (F_X3_logged M75.1) = iI (xk S : Int) then obind2 (F_X3_fewestSlides M75.1) fun v81 M82 => if v81 = iI (r : Int) then some ((1 : Int32), (M82, M75.2)) else some ((0 : Int32), (M82, M75.2)) else some ((0 : Int32), M75)) := fun h1 h2 => by
      refine ok2_o (undoes_1 hW1 (by omega) h1 h2) (fun M5 g1 g2 => ?_)
      obtain ⟨y1, y2, y3, y4, y5, y6⟩ := xN_of hNN
      refine ok2_n (by decide) ?_
      refine ok2_p (by rw [lk_logged g1, y3]) ?_
      refine ok2_d f3 g1 (fun M6 g1 => ?_)
      refine ok2_p rfl ?_
      exact ok2_1 g1 g2
    refine ⟨oUndo S1, hWu, hLu, fun M h1 h2 => ?_⟩
    unfold F_L_drives
    refine ok2_d f1 h1 (fun M1 h1 => ?_)
    rw [lk_logged h1, bnd_v]
    refine ok2_n (by rw [iL_0, iI_lt (by omega) (by omega) (by omega) (by omega)]; omega) ?_
    refine ok2_p (by rw [iI_add, show (60 : Int32) = iI 60 from rfl, iI_le (by omega) (by omega) (by omega) (by omega)]; omega) ?_
    rw [cn_17]
    by_cases r0 : r = 0
    · obtain ⟨n1, n2⟩ := next_no hW hS0 (by omega)
      refine ok2_d n1 h1 (fun M1 h1 => ?_)
      rw [cn_18]
      refine ok2_d n2 h1 (fun M1 h1 => ?_)
      refine ok2_o (S1 := S) ?_ (fun M' g1 g2 => ?_)
      · refine ok2_p (by rw [r0]; rfl) ?_
        refine ok2_p rfl ?_
        refine ok2_p rfl ?_
        exact ok2_1 h1 h2
      refine ok2_o (S1 := S1) ?_ (fun M' g1 g2 => ?_)
      · refine ok2_n (by decide) ?_
        rw [cn_4]
        refine ok2_d d1 g1 (fun M3 k1 => ?_)
        refine ok2_p rfl ?_
        rw [cn_4]
        refine ok2_d d1 g2 (fun M4 k2 => ?_)
        refine ok2_p rfl ?_
        rw [lk_isOut k1 hW1, if_pos hout]
        refine ok2_n (by decide) ?_
        refine ok2_d f2 k1 (fun M5 k1 => ?_)
        refine ok2_p rfl ?_
        refine ok2_p (by rw [lk_logged k1, x1k, q3', iI_add]; rfl) ?_
        refine ok2_p (by rw [r0]; rfl) ?_
        exact ok2_1 k1 k2
      refine ok2_n (by decide) ?_
      exact tail g1 g2
    · obtain ⟨x, hx⟩ := NX1_ex hS0 hw.vv (show 0 < S0.1 (enc (xP S) (xn S)) by
        have e : S0.1 (enc (xP S) (xn S)) = (r : Int) := hr
        omega)
      obtain ⟨n1, n2⟩ := next_y hW hS0 (show 0 < S0.1 (xs0 S) by omega) hx
      have hx1 := hx.1
      have hcar : x / 7 < xn S := by omega
      obtain ⟨hx3, v, hv1, hv2⟩ := hx.2.1
      have hb3 : -3 ≤ ((x % 7 : Nat) : Int) - 3 ∧ ((x % 7 : Nat) : Int) - 3 ≤ 3 ∧ ((x % 7 : Nat) : Int) - 3 ≠ 0 := by omega
      have hcs : canS (xw S) (xL S) (xG S) (xP S) (xn S) (x / 7) (((x % 7 : Nat) : Int) - 3) = true := by
        cases hc : canS (xw S) (xL S) (xG S) (xP S) (xn S) (x / 7) (((x % 7 : Nat) : Int) - 3) with
        | true => rfl
        | false =>
          rw [slide_n hw hcar hb3.1 hb3.2.1 hc] at hv1
          cases hv1
      obtain ⟨q, c1, c2, c3, c4⟩ := slide_y hw hcar hb3.1 hb3.2.1 hcs
      have hve : v = enc (updN (xP S) (x / 7) q) (xn S) := by
        rw [c4] at hv1
        exact (Option.some.inj hv1).symm
      have hvv : VV (xw S) (xL S) (xG S) (xn S) (enc (updN (xP S) (x / 7) q) (xn S)) := by
        have h4 : ∀ j, j < xn S → updN (xP S) (x / 7) q j < 4 := fun j hj => by
          unfold updN
          split
          · exact c2
          · exact hw.P4 hj
        exact ⟨enc_lt h4, by rw [okc_enc h4]; exact c3⟩
      have d3 := beh_y hW hcar hb3.1 hb3.2.1 hb3.2.2 hcs c1
      rw [A_end hn hw.2.1 hw.2.2.1 hvv, Aend_eq hS0, ← hve, hv2, show S0.1 (enc (xP S) (xn S)) = (r : Int) from hr] at d3
      refine ok2_d n1 h1 (fun M1 h1 => ?_)
      rw [cn_18]
      refine ok2_d n2 h1 (fun M1 h1 => ?_)
      have hrz : ¬ iI (r : Int) = (0 : Int32) := nz (by omega) (by omega) (by omega)
      obtain ⟨r', hr'⟩ : ∃ r', r = r' + 1 := ⟨r - 1, by omega⟩
      obtain ⟨g1', g2'⟩ := hpf r' x hr' hx
      have g1c : lc' (xk S) = x / 7 := g1'
      have g2b : lb' (xk S) = ((x % 7 : Nat) : Int) - 3 := g2'
      refine ok2_o (S1 := S) ?_ (fun M' g1 g2 => ?_)
      · refine ok2_n hrz ?_
        rw [cn_19]
        refine ok2_d d3 h1 (fun M1 h1 => ?_)
        refine ok2_p (by rw [show (1 : Int32) = iI 1 from rfl, iI_sub]) ?_
        exact ok2_1 h1 h2
      refine ok2_o (S1 := S1) ?_ (fun M' g1 g2 => ?_)
      · refine ok2_n (by decide) ?_
        rw [cn_4]
        refine ok2_d d1 g1 (fun M3 k1 => ?_)
        refine ok2_p rfl ?_
        rw [cn_4]
        refine ok2_d d1 g2 (fun M4 k2 => ?_)
        refine ok2_p rfl ?_
        rw [lk_isOut k1 hW1, if_pos hout]
        refine ok2_n (by decide) ?_
        refine ok2_d f2 k1 (fun M5 k1 => ?_)
        refine ok2_p rfl ?_
        refine ok2_p (by rw [lk_logged k1, x1k, q3', iI_add]; rfl) ?_
        refine ok2_n hrz ?_
        refine ok2_b (by rw [cn_14]; exact tc_y k1 hW1 (show xk S < xk S1 by omega)) ?_
        refine ok2_p (by rw [x1c, g1c]) ?_
        refine ok2_b (by rw [cn_15]; exact tb_y k1 hW1 (show xk S < xk S1 by omega)) ?_
        refine ok2_p (by rw [x1b, g2b]) ?_
        exact ok2_1 k1 k2
      refine ok2_n (by decide) ?_
      exact tail g1 g2
  · refine ⟨S, hW, hL, fun M h1 h2 => ?_⟩
    have dn := dno (by omega)
    unfold F_L_drives
    refine ok2_d f1 h1 (fun M1 h1 => ?_)
    rw [lk_logged h1, bnd_v]
    refine ok2_n (by rw [iL_0, iI_lt (by omega) (by omega) (by omega) (by omega)]; omega) ?_
    refine ok2_n (by rw [iI_add, show (60 : Int32) = iI 60 from rfl, iI_le (by omega) (by omega) (by omega) (by omega)]; omega) ?_
    rw [cn_4]
    refine ok2_d dn h1 (fun M1 h1 => ?_)
    refine ok2_p rfl ?_
    rw [cn_4]
    refine ok2_d dn h2 (fun M2 h2 => ?_)
    refine ok2_p rfl ?_
    exact ok2_1 h1 h2
end DR

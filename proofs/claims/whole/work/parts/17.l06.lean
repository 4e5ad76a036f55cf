/-! ===== the law's loop ===== -/
abbrev lwL (i : Int32) : List (Nat × Value) := [(0, .ref 63), (1, .ref 0), (2, .ref 53), (3, .ref 62), (4, .int i)]
theorem vin_I {a N : Nat} (h : a < N) (hN : N ≤ 2048) : vp_in (iI (a : Int)) N := by
  unfold vp_in
  rw [iL_0, iI_lt (by omega) (by omega) (by omega) (by omega), iI_clN (by omega)]
  omega
set_option maxRecDepth 20000 in
theorem lw_case {κ : Kx} {E : En} {Q : State → Prop} {k n : Nat} {i : Int32} {M : Wd} (hi0 : vp_in i E.2.2.2.2.1) (hi1 : vp_in (i + (1 : Int32)) E.2.2.2.2.1) (hi2 : vp_in (i + (2 : Int32)) E.2.2.2.2.1) (hi3 : vp_in (i + (3 : Int32)) E.2.2.2.2.1) (hM : Inv M) (hk : k + 2 ≤ 601024) (hn : n + 12 ≤ 7293034) (kk : ∀ M', Inv M' → J κ E mi_law Q (k + 2) (n + 12) (lwL i) M' 1976 []) : J κ E mi_law Q k n (lwL i) M 32 [] := by
  refine J_aload_n (pc := 32) dL_law_32 rfl 0 rfl ?_
  refine J_iload (pc := 33) dL_law_33 4 rfl ?_
  refine J_sld (pc := 35) hi0 dL_law_35 ?_
  refine J_bipush (v := (63 : Int32)) (pc := 36) dL_law_36 (by decide) ?_
  refine J_iand (pc := 38) dL_law_38 ?_
  generalize (E.2.2.2.2.2 i.toNatClampNeg &&& (63 : Int32)) = x
  by_cases c0 : x = 0
  · exact J_topi c0.symm (J_tableIn (pc := 39) (tgt := 252) dL_law_39 (by decide) (by decide) rfl rfl (lw_c0 hi1 hi2 hi3 hM hk hn kk))
  by_cases c1 : x = 1
  · exact J_topi c1.symm (J_tableIn (pc := 39) (tgt := 332) dL_law_39 (by decide) (by decide) rfl rfl (lw_c1 hi1 hi2 hi3 hM hk hn kk))
  by_cases c2 : x = 2
  · exact J_topi c2.symm (J_tableIn (pc := 39) (tgt := 376) dL_law_39 (by decide) (by decide) rfl rfl (lw_c2 hi1 hi2 hi3 hM hk hn kk))
  by_cases c3 : x = 3
  · exact J_topi c3.symm (J_tableIn (pc := 39) (tgt := 439) dL_law_39 (by decide) (by decide) rfl rfl (lw_c3 hi1 hi2 hi3 hM hk hn kk))
  by_cases c4 : x = 4
  · exact J_topi c4.symm (J_tableIn (pc := 39) (tgt := 507) dL_law_39 (by decide) (by decide) rfl rfl (lw_c4 hi1 hi2 hi3 hM hk hn kk))
  by_cases c5 : x = 5
  · exact J_topi c5.symm (J_tableIn (pc := 39) (tgt := 551) dL_law_39 (by decide) (by decide) rfl rfl (lw_c5 hi1 hi2 hi3 hM hk hn kk))
  by_cases c6 : x = 6
  · exact J_topi c6.symm (J_tableIn (pc := 39) (tgt := 564) dL_law_39 (by decide) (by decide) rfl rfl (lw_c6 hi1 hi2 hi3 hM hk hn kk))
  by_cases c7 : x = 7
  · exact J_topi c7.symm (J_tableIn (pc := 39) (tgt := 608) dL_law_39 (by decide) (by decide) rfl rfl (lw_c7 hi1 hi2 hi3 hM hk hn kk))
  by_cases c8 : x = 8
  · exact J_topi c8.symm (J_tableIn (pc := 39) (tgt := 664) dL_law_39 (by decide) (by decide) rfl rfl (lw_c8 hi1 hi2 hi3 hM hk hn kk))
  by_cases c9 : x = 9
  · exact J_topi c9.symm (J_tableIn (pc := 39) (tgt := 677) dL_law_39 (by decide) (by decide) rfl rfl (lw_c9 hi1 hi2 hi3 hM hk hn kk))
  by_cases c10 : x = 10
  · exact J_topi c10.symm (J_tableIn (pc := 39) (tgt := 690) dL_law_39 (by decide) (by decide) rfl rfl (lw_c10 hi1 hi2 hi3 hM hk hn kk))
  by_cases c11 : x = 11
  · exact J_topi c11.symm (J_tableIn (pc := 39) (tgt := 734) dL_law_39 (by decide) (by decide) rfl rfl (lw_c11 hi1 hi2 hi3 hM hk hn kk))
  by_cases c12 : x = 12
  · exact J_topi c12.symm (J_tableIn (pc := 39) (tgt := 747) dL_law_39 (by decide) (by decide) rfl rfl (lw_c12 hi1 hi2 hi3 hM hk hn kk))
  by_cases c13 : x = 13
  · exact J_topi c13.symm (J_tableIn (pc := 39) (tgt := 791) dL_law_39 (by decide) (by decide) rfl rfl (lw_c13 hi1 hi2 hi3 hM hk hn kk))
  by_cases c14 : x = 14
  · exact J_topi c14.symm (J_tableIn (pc := 39) (tgt := 835) dL_law_39 (by decide) (by decide) rfl rfl (lw_c14 hi1 hi2 hi3 hM hk hn kk))
  by_cases c15 : x = 15
  · exact J_topi c15.symm (J_tableIn (pc := 39) (tgt := 848) dL_law_39 (by decide) (by decide) rfl rfl (lw_c15 hi1 hi2 hi3 hM hk hn kk))
  by_cases c16 : x = 16
  · exact J_topi c16.symm (J_tableIn (pc := 39) (tgt := 892) dL_law_39 (by decide) (by decide) rfl rfl (lw_c16 hi1 hi2 hi3 hM hk hn kk))
  by_cases c17 : x = 17
  · exact J_topi c17.symm (J_tableIn (pc := 39) (tgt := 905) dL_law_39 (by decide) (by decide) rfl rfl (lw_c17 hi1 hi2 hi3 hM hk hn kk))
  by_cases c18 : x = 18
  · exact J_topi c18.symm (J_tableIn (pc := 39) (tgt := 918) dL_law_39 (by decide) (by decide) rfl rfl (lw_c18 hi1 hi2 hi3 hM hk hn kk))
  by_cases c19 : x = 19
  · exact J_topi c19.symm (J_tableIn (pc := 39) (tgt := 931) dL_law_39 (by decide) (by decide) rfl rfl (lw_c19 hi1 hi2 hi3 hM hk hn kk))
  by_cases c20 : x = 20
  · exact J_topi c20.symm (J_tableIn (pc := 39) (tgt := 987) dL_law_39 (by decide) (by decide) rfl rfl (lw_c20 hi1 hi2 hi3 hM hk hn kk))
  by_cases c21 : x = 21
  · exact J_topi c21.symm (J_tableIn (pc := 39) (tgt := 1043) dL_law_39 (by decide) (by decide) rfl rfl (lw_c21 hi1 hi2 hi3 hM hk hn kk))
  by_cases c22 : x = 22
  · exact J_topi c22.symm (J_tableIn (pc := 39) (tgt := 1099) dL_law_39 (by decide) (by decide) rfl rfl (lw_c22 hi1 hi2 hi3 hM hk hn kk))
  by_cases c23 : x = 23
  · exact J_topi c23.symm (J_tableIn (pc := 39) (tgt := 1155) dL_law_39 (by decide) (by decide) rfl rfl (lw_c23 hi1 hi2 hi3 hM hk hn kk))
  by_cases c24 : x = 24
  · exact J_topi c24.symm (J_tableIn (pc := 39) (tgt := 1218) dL_law_39 (by decide) (by decide) rfl rfl (lw_c24 hi1 hi2 hi3 hM hk hn kk))
  by_cases c25 : x = 25
  · exact J_topi c25.symm (J_tableIn (pc := 39) (tgt := 1231) dL_law_39 (by decide) (by decide) rfl rfl (lw_c25 hi1 hi2 hi3 hM hk hn kk))
  by_cases c26 : x = 26
  · exact J_topi c26.symm (J_tableIn (pc := 39) (tgt := 1244) dL_law_39 (by decide) (by decide) rfl rfl (lw_c26 hi1 hi2 hi3 hM hk hn kk))
  by_cases c27 : x = 27
  · exact J_topi c27.symm (J_tableIn (pc := 39) (tgt := 1328) dL_law_39 (by decide) (by decide) rfl rfl (lw_c27 hi1 hi2 hi3 hM hk hn kk))
  by_cases c28 : x = 28
  · exact J_topi c28.symm (J_tableIn (pc := 39) (tgt := 1341) dL_law_39 (by decide) (by decide) rfl rfl (lw_c28 hi1 hi2 hi3 hM hk hn kk))
  by_cases c29 : x = 29
  · exact J_topi c29.symm (J_tableIn (pc := 39) (tgt := 1354) dL_law_39 (by decide) (by decide) rfl rfl (lw_c29 hi1 hi2 hi3 hM hk hn kk))
  by_cases c30 : x = 30
  · exact J_topi c30.symm (J_tableIn (pc := 39) (tgt := 1410) dL_law_39 (by decide) (by decide) rfl rfl (lw_c30 hi1 hi2 hi3 hM hk hn kk))
  by_cases c31 : x = 31
  · exact J_topi c31.symm (J_tableIn (pc := 39) (tgt := 1466) dL_law_39 (by decide) (by decide) rfl rfl (lw_c31 hi1 hi2 hi3 hM hk hn kk))
  by_cases c32 : x = 32
  · exact J_topi c32.symm (J_tableIn (pc := 39) (tgt := 1522) dL_law_39 (by decide) (by decide) rfl rfl (lw_c32 hi1 hi2 hi3 hM hk hn kk))
  by_cases c33 : x = 33
  · exact J_topi c33.symm (J_tableIn (pc := 39) (tgt := 1535) dL_law_39 (by decide) (by decide) rfl rfl (lw_c33 hi1 hi2 hi3 hM hk hn kk))
  by_cases c34 : x = 34
  · exact J_topi c34.symm (J_tableIn (pc := 39) (tgt := 1548) dL_law_39 (by decide) (by decide) rfl rfl (lw_c34 hi1 hi2 hi3 hM hk hn kk))
  by_cases c35 : x = 35
  · exact J_topi c35.symm (J_tableIn (pc := 39) (tgt := 1561) dL_law_39 (by decide) (by decide) rfl rfl (lw_c35 hi1 hi2 hi3 hM hk hn kk))
  by_cases c36 : x = 36
  · exact J_topi c36.symm (J_tableIn (pc := 39) (tgt := 1574) dL_law_39 (by decide) (by decide) rfl rfl (lw_c36 hi1 hi2 hi3 hM hk hn kk))
  by_cases c37 : x = 37
  · exact J_topi c37.symm (J_tableIn (pc := 39) (tgt := 1587) dL_law_39 (by decide) (by decide) rfl rfl (lw_c37 hi1 hi2 hi3 hM hk hn kk))
  by_cases c38 : x = 38
  · exact J_topi c38.symm (J_tableIn (pc := 39) (tgt := 1600) dL_law_39 (by decide) (by decide) rfl rfl (lw_c38 hi1 hi2 hi3 hM hk hn kk))
  by_cases c39 : x = 39
  · exact J_topi c39.symm (J_tableIn (pc := 39) (tgt := 1613) dL_law_39 (by decide) (by decide) rfl rfl (lw_c39 hi1 hi2 hi3 hM hk hn kk))
  by_cases c40 : x = 40
  · exact J_topi c40.symm (J_tableIn (pc := 39) (tgt := 1657) dL_law_39 (by decide) (by decide) rfl rfl (lw_c40 hi1 hi2 hi3 hM hk hn kk))
  by_cases c41 : x = 41
  · exact J_topi c41.symm (J_tableIn (pc := 39) (tgt := 1701) dL_law_39 (by decide) (by decide) rfl rfl (lw_c41 hi1 hi2 hi3 hM hk hn kk))
  by_cases c42 : x = 42
  · exact J_topi c42.symm (J_tableIn (pc := 39) (tgt := 1714) dL_law_39 (by decide) (by decide) rfl rfl (lw_c42 hi1 hi2 hi3 hM hk hn kk))
  by_cases c43 : x = 43
  · exact J_topi c43.symm (J_tableIn (pc := 39) (tgt := 1727) dL_law_39 (by decide) (by decide) rfl rfl (lw_c43 hi1 hi2 hi3 hM hk hn kk))
  by_cases c44 : x = 44
  · exact J_topi c44.symm (J_tableIn (pc := 39) (tgt := 1740) dL_law_39 (by decide) (by decide) rfl rfl (lw_c44 hi1 hi2 hi3 hM hk hn kk))
  by_cases c45 : x = 45
  · exact J_topi c45.symm (J_tableIn (pc := 39) (tgt := 1753) dL_law_39 (by decide) (by decide) rfl rfl (lw_c45 hi1 hi2 hi3 hM hk hn kk))
  by_cases c46 : x = 46
  · exact J_topi c46.symm (J_tableIn (pc := 39) (tgt := 1821) dL_law_39 (by decide) (by decide) rfl rfl (lw_c46 hi1 hi2 hi3 hM hk hn kk))
  by_cases c47 : x = 47
  · exact J_topi c47.symm (J_tableIn (pc := 39) (tgt := 1865) dL_law_39 (by decide) (by decide) rfl rfl (lw_c47 hi1 hi2 hi3 hM hk hn kk))
  by_cases c48 : x = 48
  · exact J_topi c48.symm (J_tableIn (pc := 39) (tgt := 1921) dL_law_39 (by decide) (by decide) rfl rfl (lw_c48 hi1 hi2 hi3 hM hk hn kk))
  by_cases c49 : x = 49
  · exact J_topi c49.symm (J_tableIn (pc := 39) (tgt := 1962) dL_law_39 (by decide) (by decide) rfl rfl (lw_c49 hi1 hi2 hi3 hM hk hn kk))
  exact J_tableOut (pc := 39) (tgt := 1976) dL_law_39 (tsw_gen x 50 (by decide) (lt_s (lt_s (lt_s (lt_s (lt_s (lt_s (lt_s (lt_s (lt_s (lt_s (lt_s (lt_s (lt_s (lt_s (lt_s (lt_s (lt_s (lt_s (lt_s (lt_s (lt_s (lt_s (lt_s (lt_s (lt_s (lt_s (lt_s (lt_s (lt_s (lt_s (lt_s (lt_s (lt_s (lt_s (lt_s (lt_s (lt_s (lt_s (lt_s (lt_s (lt_s (lt_s (lt_s (lt_s (lt_s (lt_s (lt_s (lt_s (lt_s (lt_s lt_0 c0) c1) c2) c3) c4) c5) c6) c7) c8) c9) c10) c11) c12) c13) c14) c15) c16) c17) c18) c19) c20) c21) c22) c23) c24) c25) c26) c27) c28) c29) c30) c31) c32) c33) c34) c35) c36) c37) c38) c39) c40) c41) c42) c43) c44) c45) c46) c47) c48) c49)) rfl (J_wide (by omega) (by omega) (kk M hM))
theorem lw_loop {κ : Kx} {E : En} {Q : State → Prop} (hlen : E.2.2.2.2.1 ≤ 2048) (hfin : ∀ (k n : Nat) (i : Int32) (M : Wd), k ≤ 601024 → n ≤ 7293034 → J κ E mi_law Q k n (lwL i) M 1982 []) : ∀ (r j k n : Nat) (M : Wd), E.2.2.2.2.1 ≤ 4 * j + 4 * r + 3 → 4 * j ≤ E.2.2.2.2.1 → k + 2 * r ≤ 601024 → n + 12 * r ≤ 7293034 → Inv M → J κ E mi_law Q k n (lwL (iI ((4 * j : Nat) : Int))) M 23 []
  | r, j, k, n, M, h1, h2, h3, h4, hM => by
    refine J_iload (pc := 23) dL_law_23 4 rfl ?_
    refine J_aload_n (pc := 25) dL_law_25 rfl 0 rfl ?_
    refine J_slen (pc := 26) dL_law_26 ?_
    refine J_iconst (v := (4 : Int32)) (pc := 27) dL_law_27 (by decide) ?_
    refine J_isub (pc := 28) dL_law_28 ?_
    refine J_icmp_gt (pc := 29) (tgt := 1982) dL_law_29 rfl (fun _ => hfin k n _ M (by omega) (by omega)) (fun h => ?_)
    have e : Int32.ofNat E.2.2.2.2.1 - (4 : Int32) = iI ((E.2.2.2.2.1 : Int) - 4) := by
      rw [show Int32.ofNat E.2.2.2.2.1 = iI (E.2.2.2.2.1 : Int) from (iI_nI _).symm, show (4 : Int32) = iI 4 from rfl, iI_sub]
    rw [e, iI_lt (by omega) (by omega) (by omega) (by omega)] at h
    have a1 : iI ((4 * j : Nat) : Int) + (1 : Int32) = iI ((4 * j + 1 : Nat) : Int) := by rw [show (1 : Int32) = iI 1 from rfl, iI_add]; rfl
    have a2 : iI ((4 * j : Nat) : Int) + (2 : Int32) = iI ((4 * j + 2 : Nat) : Int) := by rw [show (2 : Int32) = iI 2 from rfl, iI_add]; rfl
    have a3 : iI ((4 * j : Nat) : Int) + (3 : Int32) = iI ((4 * j + 3 : Nat) : Int) := by rw [show (3 : Int32) = iI 3 from rfl, iI_add]; rfl
    match r, h1, h3, h4 with
    | 0, h1, h3, h4 => exact absurd h (by omega)
    | r + 1, h1, h3, h4 =>
      refine lw_case (vin_I (by omega) hlen) (by rw [a1]; exact vin_I (by omega) hlen) (by rw [a2]; exact vin_I (by omega) hlen) (by rw [a3]; exact vin_I (by omega) hlen) hM (by omega) (by omega) (fun M' hM' => ?_)
      refine J_iinc (pc := 1976) (v := iI ((4 * (j + 1) : Nat) : Int)) (L' := lwL (iI ((4 * (j + 1) : Nat) : Int))) dL_law_1976 4 rfl ?_ (by decide) [1, 2, 3, 4, 0] rfl ?_
      · show iI ((4 * j : Nat) : Int) + iI 4 = _
        rw [iI_add]
        congr 1
      · refine J_goto (pc := 1979) (tgt := 23) dL_law_1979 rfl ?_
        exact lw_loop hlen hfin r (j + 1) (k + 2) (n + 12) M' (by omega) (by omega) (by omega) (by omega) hM'

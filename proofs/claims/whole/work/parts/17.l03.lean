/-! ===== the law's cases, from 13 ===== -/
theorem lw_c13 {κ : Kx} {E : En} {Q : State → Prop} {k n : Nat} {i : Int32} {M : Wd} (hi1 : vp_in (i + (1 : Int32)) E.2.2.2.2.1) (hi2 : vp_in (i + (2 : Int32)) E.2.2.2.2.1) (hi3 : vp_in (i + (3 : Int32)) E.2.2.2.2.1) (hM : Inv M) (hk : k + 2 ≤ 601024) (hn : n + 12 ≤ 7293034) (kk : ∀ M', Inv M' → J κ E mi_law Q (k + 2) (n + 12) [(0, .ref 63), (1, .ref 0), (2, .ref 53), (3, .ref 62), (4, .int i)] M' 1976 []) : J κ E mi_law Q k n [(0, .ref 63), (1, .ref 0), (2, .ref 53), (3, .ref 62), (4, .int i)] M 791 [] := by
  obtain ⟨r, M1, b, M2, e1, e2, e3, e4, e5⟩ := t_undo M hM
  have hend : J κ E mi_law Q (k + 1) (n + 6) [(0, .ref 63), (1, .ref 0), (2, .ref 53), (3, .ref 62), (4, .int i), (5, .int r), (6, .int b)] M2 832 [] := by
    refine J_goto (pc := 832) (tgt := 1976) dL_law_832 rfl ?_
    refine J_wide (k' := k + 2) (n' := n + 12) (by omega) (by omega) ?_
    refine J_sub (L' := [(0, .ref 63), (1, .ref 0), (2, .ref 53), (3, .ref 62), (4, .int i)]) [0, 1, 2, 3, 4] rfl ?_
    exact kk _ e5
  refine J_aload_n (pc := 791) dL_law_791 rfl 1 rfl ?_
  refine J_aload_n (pc := 792) dL_law_792 rfl 3 rfl ?_
  refine J_callSX (g := mi_L_undo) (pc := 793) [.ref 0, .ref 62] [] ms_L_undo w_890 (k_L_undo_0_62 _ e1) rfl rfl (rm_law (Nat.le_of_ble_eq_true rfl) (Nat.le_of_ble_eq_true rfl) (show k + 1 ≤ 601024 by omega) (show n + 6 ≤ 7293034 by omega)) (Nat.le_of_ble_eq_true rfl) dL_law_793 (Jk_vk (k + 1) (n + 6) rfl rfl fun _ => ?_)
  refine J_istore (pc := 796) (L' := [(0, .ref 63), (1, .ref 0), (2, .ref 53), (3, .ref 62), (4, .int i), (5, .int r)]) dL_law_796 (by decide) [1, 2, 3, 4, 5, 0] rfl ?_
  refine J_aload_n (pc := 798) dL_law_798 rfl 2 rfl ?_
  refine J_callV (g := mi_X4_undo) (ci := 4) (pc := 799) [] [] mv_X4_undo w_1329 (k_X4_undo _ e2) rfl (by decide) rfl rfl rfl (rm_law (Nat.le_of_ble_eq_true rfl) (Nat.le_of_ble_eq_true rfl) (show (k + 1) + 0 ≤ 601024 by omega) (show (n + 6) + 0 ≤ 7293034 by omega)) (Nat.le_of_ble_eq_true rfl) dL_law_799 (Jk_v rfl rfl fun _ => ?_)
  refine J_istore (pc := 802) (L' := [(0, .ref 63), (1, .ref 0), (2, .ref 53), (3, .ref 62), (4, .int i), (5, .int r), (6, .int b)]) dL_law_802 (by decide) [1, 2, 3, 4, 5, 6, 0] rfl ?_
  refine J_aload_n (pc := 804) dL_law_804 rfl 2 rfl ?_
  refine J_callV (g := mi_X4_thrown) (ci := 4) (pc := 805) [] [] mv_X4_thrown w_1091 (k_X4_thrown _) rfl (by decide) rfl rfl rfl (rm_law (Nat.le_of_ble_eq_true rfl) (Nat.le_of_ble_eq_true rfl) (show (k + 1) + 0 ≤ 601024 by omega) (show (n + 6) + 0 ≤ 7293034 by omega)) (Nat.le_of_ble_eq_true rfl) dL_law_805 (Jk_v rfl rfl fun _ => ?_)
  refine J_iload (pc := 808) dL_law_808 5 rfl ?_
  refine J_icmp_eq (pc := 810) (tgt := 815) dL_law_810 rfl (fun _ => ?_) (fun h => absurd e3 h)
  refine J_iload (pc := 815) dL_law_815 5 rfl ?_
  refine J_if_ne (pc := 817) (tgt := 832) dL_law_817 rfl (fun _ => hend) (fun hr => ?_)
  refine J_aload_n (pc := 820) dL_law_820 rfl 3 rfl ?_
  refine J_iconst (v := (0 : Int32)) (pc := 821) dL_law_821 (by decide) ?_
  refine J_lald (pc := 822) (i := (0 : Int32)) vin0 dL_law_822 ?_
  refine J_iload (pc := 823) dL_law_823 6 rfl ?_
  refine J_i2l (pc := 825) dL_law_825 ?_
  refine J_lcmp (pc := 826) dL_law_826 ?_
  exact J_if_eq (pc := 827) (tgt := 832) dL_law_827 rfl (fun _ => hend) (fun h => absurd (lg_self (e4 hr)) h)
theorem lw_c14 {κ : Kx} {E : En} {Q : State → Prop} {k n : Nat} {i : Int32} {M : Wd} (hi1 : vp_in (i + (1 : Int32)) E.2.2.2.2.1) (hi2 : vp_in (i + (2 : Int32)) E.2.2.2.2.1) (hi3 : vp_in (i + (3 : Int32)) E.2.2.2.2.1) (hM : Inv M) (hk : k + 2 ≤ 601024) (hn : n + 12 ≤ 7293034) (kk : ∀ M', Inv M' → J κ E mi_law Q (k + 2) (n + 12) [(0, .ref 63), (1, .ref 0), (2, .ref 53), (3, .ref 62), (4, .int i)] M' 1976 []) : J κ E mi_law Q k n [(0, .ref 63), (1, .ref 0), (2, .ref 53), (3, .ref 62), (4, .int i)] M 835 [] := by
  obtain ⟨v, M1, M2, e1, e2, e3⟩ := t_keep M hM
  refine J_aload_n (pc := 835) dL_law_835 rfl 1 rfl ?_
  refine J_callV (g := mi_X3_keep) (ci := 3) (pc := 836) [] [] mv_X3_keep w_311 (k_X3_keep _ e1) rfl (by decide) rfl rfl rfl (rm_law (Nat.le_of_ble_eq_true rfl) (Nat.le_of_ble_eq_true rfl) (show k + 0 ≤ 601024 by omega) (show n + 0 ≤ 7293034 by omega)) (Nat.le_of_ble_eq_true rfl) dL_law_836 (Jk_v rfl rfl fun _ => ?_)
  refine J_aload_n (pc := 839) dL_law_839 rfl 2 rfl ?_
  refine J_callV (g := mi_X4_keep) (ci := 4) (pc := 840) [] [.int v] mv_X4_keep w_1333 (k_X4_keep _ e2) rfl (by decide) rfl rfl rfl (rm_law (Nat.le_of_ble_eq_true rfl) (Nat.le_of_ble_eq_true rfl) (show k + 0 ≤ 601024 by omega) (show n + 0 ≤ 7293034 by omega)) (Nat.le_of_ble_eq_true rfl) dL_law_840 (Jk_v rfl rfl fun _ => ?_)
  refine J_icmp_eq (pc := 843) (tgt := 1976) dL_law_843 rfl (fun _ => ?_) (fun h => absurd rfl h)
  refine J_wide (k' := k + 2) (n' := n + 12) (by omega) (by omega) ?_
  exact kk _ e3
theorem lw_c15 {κ : Kx} {E : En} {Q : State → Prop} {k n : Nat} {i : Int32} {M : Wd} (hi1 : vp_in (i + (1 : Int32)) E.2.2.2.2.1) (hi2 : vp_in (i + (2 : Int32)) E.2.2.2.2.1) (hi3 : vp_in (i + (3 : Int32)) E.2.2.2.2.1) (hM : Inv M) (hk : k + 2 ≤ 601024) (hn : n + 12 ≤ 7293034) (kk : ∀ M', Inv M' → J κ E mi_law Q (k + 2) (n + 12) [(0, .ref 63), (1, .ref 0), (2, .ref 53), (3, .ref 62), (4, .int i)] M' 1976 []) : J κ E mi_law Q k n [(0, .ref 63), (1, .ref 0), (2, .ref 53), (3, .ref 62), (4, .int i)] M 848 [] := by
  obtain ⟨r, M1, b, M2, e1, e2, e3, e4, e5⟩ := t_restore M hM
  have hend : J κ E mi_law Q (k + 1) (n + 6) [(0, .ref 63), (1, .ref 0), (2, .ref 53), (3, .ref 62), (4, .int i), (5, .int r), (6, .int b)] M2 889 [] := by
    refine J_goto (pc := 889) (tgt := 1976) dL_law_889 rfl ?_
    refine J_wide (k' := k + 2) (n' := n + 12) (by omega) (by omega) ?_
    refine J_sub (L' := [(0, .ref 63), (1, .ref 0), (2, .ref 53), (3, .ref 62), (4, .int i)]) [0, 1, 2, 3, 4] rfl ?_
    exact kk _ e5
  refine J_aload_n (pc := 848) dL_law_848 rfl 1 rfl ?_
  refine J_aload_n (pc := 849) dL_law_849 rfl 3 rfl ?_
  refine J_callSX (g := mi_L_restore) (pc := 850) [.ref 0, .ref 62] [] ms_L_restore w_898 (k_L_restore_0_62 _ e1) rfl rfl (rm_law (Nat.le_of_ble_eq_true rfl) (Nat.le_of_ble_eq_true rfl) (show k + 1 ≤ 601024 by omega) (show n + 6 ≤ 7293034 by omega)) (Nat.le_of_ble_eq_true rfl) dL_law_850 (Jk_vk (k + 1) (n + 6) rfl rfl fun _ => ?_)
  refine J_istore (pc := 853) (L' := [(0, .ref 63), (1, .ref 0), (2, .ref 53), (3, .ref 62), (4, .int i), (5, .int r)]) dL_law_853 (by decide) [1, 2, 3, 4, 5, 0] rfl ?_
  refine J_aload_n (pc := 855) dL_law_855 rfl 2 rfl ?_
  refine J_callV (g := mi_X4_restore) (ci := 4) (pc := 856) [] [] mv_X4_restore w_1337 (k_X4_restore _ e2) rfl (by decide) rfl rfl rfl (rm_law (Nat.le_of_ble_eq_true rfl) (Nat.le_of_ble_eq_true rfl) (show (k + 1) + 0 ≤ 601024 by omega) (show (n + 6) + 0 ≤ 7293034 by omega)) (Nat.le_of_ble_eq_true rfl) dL_law_856 (Jk_v rfl rfl fun _ => ?_)
  refine J_istore (pc := 859) (L' := [(0, .ref 63), (1, .ref 0), (2, .ref 53), (3, .ref 62), (4, .int i), (5, .int r), (6, .int b)]) dL_law_859 (by decide) [1, 2, 3, 4, 5, 6, 0] rfl ?_
  refine J_aload_n (pc := 861) dL_law_861 rfl 2 rfl ?_
  refine J_callV (g := mi_X4_thrown) (ci := 4) (pc := 862) [] [] mv_X4_thrown w_1091 (k_X4_thrown _) rfl (by decide) rfl rfl rfl (rm_law (Nat.le_of_ble_eq_true rfl) (Nat.le_of_ble_eq_true rfl) (show (k + 1) + 0 ≤ 601024 by omega) (show (n + 6) + 0 ≤ 7293034 by omega)) (Nat.le_of_ble_eq_true rfl) dL_law_862 (Jk_v rfl rfl fun _ => ?_)
  refine J_iload (pc := 865) dL_law_865 5 rfl ?_
  refine J_icmp_eq (pc := 867) (tgt := 872) dL_law_867 rfl (fun _ => ?_) (fun h => absurd e3 h)
  refine J_iload (pc := 872) dL_law_872 5 rfl ?_
  refine J_if_ne (pc := 874) (tgt := 889) dL_law_874 rfl (fun _ => hend) (fun hr => ?_)
  refine J_aload_n (pc := 877) dL_law_877 rfl 3 rfl ?_
  refine J_iconst (v := (0 : Int32)) (pc := 878) dL_law_878 (by decide) ?_
  refine J_lald (pc := 879) (i := (0 : Int32)) vin0 dL_law_879 ?_
  refine J_iload (pc := 880) dL_law_880 6 rfl ?_
  refine J_i2l (pc := 882) dL_law_882 ?_
  refine J_lcmp (pc := 883) dL_law_883 ?_
  exact J_if_eq (pc := 884) (tgt := 889) dL_law_884 rfl (fun _ => hend) (fun h => absurd (lg_self (e4 hr)) h)
theorem lw_c16 {κ : Kx} {E : En} {Q : State → Prop} {k n : Nat} {i : Int32} {M : Wd} (hi1 : vp_in (i + (1 : Int32)) E.2.2.2.2.1) (hi2 : vp_in (i + (2 : Int32)) E.2.2.2.2.1) (hi3 : vp_in (i + (3 : Int32)) E.2.2.2.2.1) (hM : Inv M) (hk : k + 2 ≤ 601024) (hn : n + 12 ≤ 7293034) (kk : ∀ M', Inv M' → J κ E mi_law Q (k + 2) (n + 12) [(0, .ref 63), (1, .ref 0), (2, .ref 53), (3, .ref 62), (4, .int i)] M' 1976 []) : J κ E mi_law Q k n [(0, .ref 63), (1, .ref 0), (2, .ref 53), (3, .ref 62), (4, .int i)] M 892 [] := by
  obtain ⟨v, M1, M2, e1, e2, e3⟩ := t_savedStates M hM
  have e1' : some (F_X3_savedStates M, M) = some (v, M1) := e1
  obtain ⟨rfl, rfl⟩ := Prod.mk.inj (Option.some.inj e1')
  refine J_aload_n (pc := 892) dL_law_892 rfl 1 rfl ?_
  refine J_callV (g := mi_X3_savedStates) (ci := 3) (pc := 893) [] [] mv_X3_savedStates w_315 (k_X3_savedStates _) rfl (by decide) rfl rfl rfl (rm_law (Nat.le_of_ble_eq_true rfl) (Nat.le_of_ble_eq_true rfl) (show k + 0 ≤ 601024 by omega) (show n + 0 ≤ 7293034 by omega)) (Nat.le_of_ble_eq_true rfl) dL_law_893 (Jk_v rfl rfl fun _ => ?_)
  refine J_aload_n (pc := 896) dL_law_896 rfl 2 rfl ?_
  refine J_callV (g := mi_X4_savedStates) (ci := 4) (pc := 897) [] [.int (F_X3_savedStates M)] mv_X4_savedStates w_1341 (k_X4_savedStates _ e2) rfl (by decide) rfl rfl rfl (rm_law (Nat.le_of_ble_eq_true rfl) (Nat.le_of_ble_eq_true rfl) (show k + 0 ≤ 601024 by omega) (show n + 0 ≤ 7293034 by omega)) (Nat.le_of_ble_eq_true rfl) dL_law_897 (Jk_v rfl rfl fun _ => ?_)
  refine J_icmp_eq (pc := 900) (tgt := 1976) dL_law_900 rfl (fun _ => ?_) (fun h => absurd rfl h)
  refine J_wide (k' := k + 2) (n' := n + 12) (by omega) (by omega) ?_
  exact kk _ e3
theorem lw_c17 {κ : Kx} {E : En} {Q : State → Prop} {k n : Nat} {i : Int32} {M : Wd} (hi1 : vp_in (i + (1 : Int32)) E.2.2.2.2.1) (hi2 : vp_in (i + (2 : Int32)) E.2.2.2.2.1) (hi3 : vp_in (i + (3 : Int32)) E.2.2.2.2.1) (hM : Inv M) (hk : k + 2 ≤ 601024) (hn : n + 12 ≤ 7293034) (kk : ∀ M', Inv M' → J κ E mi_law Q (k + 2) (n + 12) [(0, .ref 63), (1, .ref 0), (2, .ref 53), (3, .ref 62), (4, .int i)] M' 1976 []) : J κ E mi_law Q k n [(0, .ref 63), (1, .ref 0), (2, .ref 53), (3, .ref 62), (4, .int i)] M 905 [] := by
  obtain ⟨v, M1, M2, e1, e2, e3⟩ := t_cars M hM
  have e1' : some (F_X3_cars M, M) = some (v, M1) := e1
  obtain ⟨rfl, rfl⟩ := Prod.mk.inj (Option.some.inj e1')
  refine J_aload_n (pc := 905) dL_law_905 rfl 1 rfl ?_
  refine J_callV (g := mi_X3_cars) (ci := 3) (pc := 906) [] [] mv_X3_cars w_319 (k_X3_cars _) rfl (by decide) rfl rfl rfl (rm_law (Nat.le_of_ble_eq_true rfl) (Nat.le_of_ble_eq_true rfl) (show k + 0 ≤ 601024 by omega) (show n + 0 ≤ 7293034 by omega)) (Nat.le_of_ble_eq_true rfl) dL_law_906 (Jk_v rfl rfl fun _ => ?_)
  refine J_aload_n (pc := 909) dL_law_909 rfl 2 rfl ?_
  refine J_callV (g := mi_X4_cars) (ci := 4) (pc := 910) [] [.int (F_X3_cars M)] mv_X4_cars w_1345 (k_X4_cars _ e2) rfl (by decide) rfl rfl rfl (rm_law (Nat.le_of_ble_eq_true rfl) (Nat.le_of_ble_eq_true rfl) (show k + 0 ≤ 601024 by omega) (show n + 0 ≤ 7293034 by omega)) (Nat.le_of_ble_eq_true rfl) dL_law_910 (Jk_v rfl rfl fun _ => ?_)
  refine J_icmp_eq (pc := 913) (tgt := 1976) dL_law_913 rfl (fun _ => ?_) (fun h => absurd rfl h)
  refine J_wide (k' := k + 2) (n' := n + 12) (by omega) (by omega) ?_
  exact kk _ e3
theorem lw_c18 {κ : Kx} {E : En} {Q : State → Prop} {k n : Nat} {i : Int32} {M : Wd} (hi1 : vp_in (i + (1 : Int32)) E.2.2.2.2.1) (hi2 : vp_in (i + (2 : Int32)) E.2.2.2.2.1) (hi3 : vp_in (i + (3 : Int32)) E.2.2.2.2.1) (hM : Inv M) (hk : k + 2 ≤ 601024) (hn : n + 12 ≤ 7293034) (kk : ∀ M', Inv M' → J κ E mi_law Q (k + 2) (n + 12) [(0, .ref 63), (1, .ref 0), (2, .ref 53), (3, .ref 62), (4, .int i)] M' 1976 []) : J κ E mi_law Q k n [(0, .ref 63), (1, .ref 0), (2, .ref 53), (3, .ref 62), (4, .int i)] M 918 [] := by
  obtain ⟨v, M1, M2, e1, e2, e3⟩ := t_walls M hM
  have e1' : some (F_X3_walls M, M) = some (v, M1) := e1
  obtain ⟨rfl, rfl⟩ := Prod.mk.inj (Option.some.inj e1')
  refine J_aload_n (pc := 918) dL_law_918 rfl 1 rfl ?_
  refine J_callV (g := mi_X3_walls) (ci := 3) (pc := 919) [] [] mv_X3_walls w_323 (k_X3_walls _) rfl (by decide) rfl rfl rfl (rm_law (Nat.le_of_ble_eq_true rfl) (Nat.le_of_ble_eq_true rfl) (show k + 0 ≤ 601024 by omega) (show n + 0 ≤ 7293034 by omega)) (Nat.le_of_ble_eq_true rfl) dL_law_919 (Jk_v rfl rfl fun _ => ?_)
  refine J_aload_n (pc := 922) dL_law_922 rfl 2 rfl ?_
  refine J_callV (g := mi_X4_walls) (ci := 4) (pc := 923) [] [.int (F_X3_walls M)] mv_X4_walls w_1353 (k_X4_walls _ e2) rfl (by decide) rfl rfl rfl (rm_law (Nat.le_of_ble_eq_true rfl) (Nat.le_of_ble_eq_true rfl) (show k + 0 ≤ 601024 by omega) (show n + 0 ≤ 7293034 by omega)) (Nat.le_of_ble_eq_true rfl) dL_law_923 (Jk_v rfl rfl fun _ => ?_)
  refine J_icmp_eq (pc := 926) (tgt := 1976) dL_law_926 rfl (fun _ => ?_) (fun h => absurd rfl h)
  refine J_wide (k' := k + 2) (n' := n + 12) (by omega) (by omega) ?_
  exact kk _ e3
theorem lw_c19 {κ : Kx} {E : En} {Q : State → Prop} {k n : Nat} {i : Int32} {M : Wd} (hi1 : vp_in (i + (1 : Int32)) E.2.2.2.2.1) (hi2 : vp_in (i + (2 : Int32)) E.2.2.2.2.1) (hi3 : vp_in (i + (3 : Int32)) E.2.2.2.2.1) (hM : Inv M) (hk : k + 2 ≤ 601024) (hn : n + 12 ≤ 7293034) (kk : ∀ M', Inv M' → J κ E mi_law Q (k + 2) (n + 12) [(0, .ref 63), (1, .ref 0), (2, .ref 53), (3, .ref 62), (4, .int i)] M' 1976 []) : J κ E mi_law Q k n [(0, .ref 63), (1, .ref 0), (2, .ref 53), (3, .ref 62), (4, .int i)] M 931 [] := by
  obtain ⟨r, M1, b, M2, e1, e2, e3, e4, e5⟩ := t_laneOf (E.2.2.2.2.2 (i + (1 : Int32)).toNatClampNeg) M hM
  have hend : J κ E mi_law Q (k + 1) (n + 6) [(0, .ref 63), (1, .ref 0), (2, .ref 53), (3, .ref 62), (4, .int i), (5, .int r), (6, .int b)] M2 984 [] := by
    refine J_goto (pc := 984) (tgt := 1976) dL_law_984 rfl ?_
    refine J_wide (k' := k + 2) (n' := n + 12) (by omega) (by omega) ?_
    refine J_sub (L' := [(0, .ref 63), (1, .ref 0), (2, .ref 53), (3, .ref 62), (4, .int i)]) [0, 1, 2, 3, 4] rfl ?_
    exact kk _ e5
  refine J_aload_n (pc := 931) dL_law_931 rfl 1 rfl ?_
  refine J_aload_n (pc := 932) dL_law_932 rfl 0 rfl ?_
  refine J_iload (pc := 933) dL_law_933 4 rfl ?_
  refine J_iconst (v := (1 : Int32)) (pc := 935) dL_law_935 (by decide) ?_
  refine J_iadd (pc := 936) dL_law_936 ?_
  refine J_sld (pc := 937) hi1 dL_law_937 ?_
  refine J_aload_n (pc := 938) dL_law_938 rfl 3 rfl ?_
  refine J_callSX (g := mi_L_laneOf) (pc := 939) [.ref 0, .int (E.2.2.2.2.2 (i + (1 : Int32)).toNatClampNeg), .ref 62] [] ms_L_laneOf w_906 (k_L_laneOf_0_62 (E.2.2.2.2.2 (i + (1 : Int32)).toNatClampNeg) _ e1) rfl rfl (rm_law (Nat.le_of_ble_eq_true rfl) (Nat.le_of_ble_eq_true rfl) (show k + 1 ≤ 601024 by omega) (show n + 6 ≤ 7293034 by omega)) (Nat.le_of_ble_eq_true rfl) dL_law_939 (Jk_vk (k + 1) (n + 6) rfl rfl fun _ => ?_)
  refine J_istore (pc := 942) (L' := [(0, .ref 63), (1, .ref 0), (2, .ref 53), (3, .ref 62), (4, .int i), (5, .int r)]) dL_law_942 (by decide) [1, 2, 3, 4, 5, 0] rfl ?_
  refine J_aload_n (pc := 944) dL_law_944 rfl 2 rfl ?_
  refine J_aload_n (pc := 945) dL_law_945 rfl 0 rfl ?_
  refine J_iload (pc := 946) dL_law_946 4 rfl ?_
  refine J_iconst (v := (1 : Int32)) (pc := 948) dL_law_948 (by decide) ?_
  refine J_iadd (pc := 949) dL_law_949 ?_
  refine J_sld (pc := 950) hi1 dL_law_950 ?_
  refine J_callV (g := mi_X4_laneOf) (ci := 4) (pc := 951) [.int (E.2.2.2.2.2 (i + (1 : Int32)).toNatClampNeg)] [] mv_X4_laneOf w_1357 (k_X4_laneOf (E.2.2.2.2.2 (i + (1 : Int32)).toNatClampNeg) _ e2) rfl (by decide) rfl rfl rfl (rm_law (Nat.le_of_ble_eq_true rfl) (Nat.le_of_ble_eq_true rfl) (show (k + 1) + 0 ≤ 601024 by omega) (show (n + 6) + 0 ≤ 7293034 by omega)) (Nat.le_of_ble_eq_true rfl) dL_law_951 (Jk_v rfl rfl fun _ => ?_)
  refine J_istore (pc := 954) (L' := [(0, .ref 63), (1, .ref 0), (2, .ref 53), (3, .ref 62), (4, .int i), (5, .int r), (6, .int b)]) dL_law_954 (by decide) [1, 2, 3, 4, 5, 6, 0] rfl ?_
  refine J_aload_n (pc := 956) dL_law_956 rfl 2 rfl ?_
  refine J_callV (g := mi_X4_thrown) (ci := 4) (pc := 957) [] [] mv_X4_thrown w_1091 (k_X4_thrown _) rfl (by decide) rfl rfl rfl (rm_law (Nat.le_of_ble_eq_true rfl) (Nat.le_of_ble_eq_true rfl) (show (k + 1) + 0 ≤ 601024 by omega) (show (n + 6) + 0 ≤ 7293034 by omega)) (Nat.le_of_ble_eq_true rfl) dL_law_957 (Jk_v rfl rfl fun _ => ?_)
  refine J_iload (pc := 960) dL_law_960 5 rfl ?_
  refine J_icmp_eq (pc := 962) (tgt := 967) dL_law_962 rfl (fun _ => ?_) (fun h => absurd e3 h)
  refine J_iload (pc := 967) dL_law_967 5 rfl ?_
  refine J_if_ne (pc := 969) (tgt := 984) dL_law_969 rfl (fun _ => hend) (fun hr => ?_)
  refine J_aload_n (pc := 972) dL_law_972 rfl 3 rfl ?_
  refine J_iconst (v := (0 : Int32)) (pc := 973) dL_law_973 (by decide) ?_
  refine J_lald (pc := 974) (i := (0 : Int32)) vin0 dL_law_974 ?_
  refine J_iload (pc := 975) dL_law_975 6 rfl ?_
  refine J_i2l (pc := 977) dL_law_977 ?_
  refine J_lcmp (pc := 978) dL_law_978 ?_
  exact J_if_eq (pc := 979) (tgt := 984) dL_law_979 rfl (fun _ => hend) (fun h => absurd (lg_self (e4 hr)) h)
theorem lw_c20 {κ : Kx} {E : En} {Q : State → Prop} {k n : Nat} {i : Int32} {M : Wd} (hi1 : vp_in (i + (1 : Int32)) E.2.2.2.2.1) (hi2 : vp_in (i + (2 : Int32)) E.2.2.2.2.1) (hi3 : vp_in (i + (3 : Int32)) E.2.2.2.2.1) (hM : Inv M) (hk : k + 2 ≤ 601024) (hn : n + 12 ≤ 7293034) (kk : ∀ M', Inv M' → J κ E mi_law Q (k + 2) (n + 12) [(0, .ref 63), (1, .ref 0), (2, .ref 53), (3, .ref 62), (4, .int i)] M' 1976 []) : J κ E mi_law Q k n [(0, .ref 63), (1, .ref 0), (2, .ref 53), (3, .ref 62), (4, .int i)] M 987 [] := by
  obtain ⟨r, M1, b, M2, e1, e2, e3, e4, e5⟩ := t_placeOf (E.2.2.2.2.2 (i + (1 : Int32)).toNatClampNeg) M hM
  have hend : J κ E mi_law Q (k + 1) (n + 6) [(0, .ref 63), (1, .ref 0), (2, .ref 53), (3, .ref 62), (4, .int i), (5, .int r), (6, .int b)] M2 1040 [] := by
    refine J_goto (pc := 1040) (tgt := 1976) dL_law_1040 rfl ?_
    refine J_wide (k' := k + 2) (n' := n + 12) (by omega) (by omega) ?_
    refine J_sub (L' := [(0, .ref 63), (1, .ref 0), (2, .ref 53), (3, .ref 62), (4, .int i)]) [0, 1, 2, 3, 4] rfl ?_
    exact kk _ e5
  refine J_aload_n (pc := 987) dL_law_987 rfl 1 rfl ?_
  refine J_aload_n (pc := 988) dL_law_988 rfl 0 rfl ?_
  refine J_iload (pc := 989) dL_law_989 4 rfl ?_
  refine J_iconst (v := (1 : Int32)) (pc := 991) dL_law_991 (by decide) ?_
  refine J_iadd (pc := 992) dL_law_992 ?_
  refine J_sld (pc := 993) hi1 dL_law_993 ?_
  refine J_aload_n (pc := 994) dL_law_994 rfl 3 rfl ?_
  refine J_callSX (g := mi_L_placeOf) (pc := 995) [.ref 0, .int (E.2.2.2.2.2 (i + (1 : Int32)).toNatClampNeg), .ref 62] [] ms_L_placeOf w_915 (k_L_placeOf_0_62 (E.2.2.2.2.2 (i + (1 : Int32)).toNatClampNeg) _ e1) rfl rfl (rm_law (Nat.le_of_ble_eq_true rfl) (Nat.le_of_ble_eq_true rfl) (show k + 1 ≤ 601024 by omega) (show n + 6 ≤ 7293034 by omega)) (Nat.le_of_ble_eq_true rfl) dL_law_995 (Jk_vk (k + 1) (n + 6) rfl rfl fun _ => ?_)
  refine J_istore (pc := 998) (L' := [(0, .ref 63), (1, .ref 0), (2, .ref 53), (3, .ref 62), (4, .int i), (5, .int r)]) dL_law_998 (by decide) [1, 2, 3, 4, 5, 0] rfl ?_
  refine J_aload_n (pc := 1000) dL_law_1000 rfl 2 rfl ?_
  refine J_aload_n (pc := 1001) dL_law_1001 rfl 0 rfl ?_
  refine J_iload (pc := 1002) dL_law_1002 4 rfl ?_
  refine J_iconst (v := (1 : Int32)) (pc := 1004) dL_law_1004 (by decide) ?_
  refine J_iadd (pc := 1005) dL_law_1005 ?_
  refine J_sld (pc := 1006) hi1 dL_law_1006 ?_
  refine J_callV (g := mi_X4_placeOf) (ci := 4) (pc := 1007) [.int (E.2.2.2.2.2 (i + (1 : Int32)).toNatClampNeg)] [] mv_X4_placeOf w_1365 (k_X4_placeOf (E.2.2.2.2.2 (i + (1 : Int32)).toNatClampNeg) _ e2) rfl (by decide) rfl rfl rfl (rm_law (Nat.le_of_ble_eq_true rfl) (Nat.le_of_ble_eq_true rfl) (show (k + 1) + 0 ≤ 601024 by omega) (show (n + 6) + 0 ≤ 7293034 by omega)) (Nat.le_of_ble_eq_true rfl) dL_law_1007 (Jk_v rfl rfl fun _ => ?_)
  refine J_istore (pc := 1010) (L' := [(0, .ref 63), (1, .ref 0), (2, .ref 53), (3, .ref 62), (4, .int i), (5, .int r), (6, .int b)]) dL_law_1010 (by decide) [1, 2, 3, 4, 5, 6, 0] rfl ?_
  refine J_aload_n (pc := 1012) dL_law_1012 rfl 2 rfl ?_
  refine J_callV (g := mi_X4_thrown) (ci := 4) (pc := 1013) [] [] mv_X4_thrown w_1091 (k_X4_thrown _) rfl (by decide) rfl rfl rfl (rm_law (Nat.le_of_ble_eq_true rfl) (Nat.le_of_ble_eq_true rfl) (show (k + 1) + 0 ≤ 601024 by omega) (show (n + 6) + 0 ≤ 7293034 by omega)) (Nat.le_of_ble_eq_true rfl) dL_law_1013 (Jk_v rfl rfl fun _ => ?_)
  refine J_iload (pc := 1016) dL_law_1016 5 rfl ?_
  refine J_icmp_eq (pc := 1018) (tgt := 1023) dL_law_1018 rfl (fun _ => ?_) (fun h => absurd e3 h)
  refine J_iload (pc := 1023) dL_law_1023 5 rfl ?_
  refine J_if_ne (pc := 1025) (tgt := 1040) dL_law_1025 rfl (fun _ => hend) (fun hr => ?_)
  refine J_aload_n (pc := 1028) dL_law_1028 rfl 3 rfl ?_
  refine J_iconst (v := (0 : Int32)) (pc := 1029) dL_law_1029 (by decide) ?_
  refine J_lald (pc := 1030) (i := (0 : Int32)) vin0 dL_law_1030 ?_
  refine J_iload (pc := 1031) dL_law_1031 6 rfl ?_
  refine J_i2l (pc := 1033) dL_law_1033 ?_
  refine J_lcmp (pc := 1034) dL_law_1034 ?_
  exact J_if_eq (pc := 1035) (tgt := 1040) dL_law_1035 rfl (fun _ => hend) (fun h => absurd (lg_self (e4 hr)) h)
theorem lw_c21 {κ : Kx} {E : En} {Q : State → Prop} {k n : Nat} {i : Int32} {M : Wd} (hi1 : vp_in (i + (1 : Int32)) E.2.2.2.2.1) (hi2 : vp_in (i + (2 : Int32)) E.2.2.2.2.1) (hi3 : vp_in (i + (3 : Int32)) E.2.2.2.2.1) (hM : Inv M) (hk : k + 2 ≤ 601024) (hn : n + 12 ≤ 7293034) (kk : ∀ M', Inv M' → J κ E mi_law Q (k + 2) (n + 12) [(0, .ref 63), (1, .ref 0), (2, .ref 53), (3, .ref 62), (4, .int i)] M' 1976 []) : J κ E mi_law Q k n [(0, .ref 63), (1, .ref 0), (2, .ref 53), (3, .ref 62), (4, .int i)] M 1043 [] := by
  obtain ⟨r, M1, b, M2, e1, e2, e3, e4, e5⟩ := t_lengthOf (E.2.2.2.2.2 (i + (1 : Int32)).toNatClampNeg) M hM
  have hend : J κ E mi_law Q (k + 1) (n + 6) [(0, .ref 63), (1, .ref 0), (2, .ref 53), (3, .ref 62), (4, .int i), (5, .int r), (6, .int b)] M2 1096 [] := by
    refine J_goto (pc := 1096) (tgt := 1976) dL_law_1096 rfl ?_
    refine J_wide (k' := k + 2) (n' := n + 12) (by omega) (by omega) ?_
    refine J_sub (L' := [(0, .ref 63), (1, .ref 0), (2, .ref 53), (3, .ref 62), (4, .int i)]) [0, 1, 2, 3, 4] rfl ?_
    exact kk _ e5
  refine J_aload_n (pc := 1043) dL_law_1043 rfl 1 rfl ?_
  refine J_aload_n (pc := 1044) dL_law_1044 rfl 0 rfl ?_
  refine J_iload (pc := 1045) dL_law_1045 4 rfl ?_
  refine J_iconst (v := (1 : Int32)) (pc := 1047) dL_law_1047 (by decide) ?_
  refine J_iadd (pc := 1048) dL_law_1048 ?_
  refine J_sld (pc := 1049) hi1 dL_law_1049 ?_
  refine J_aload_n (pc := 1050) dL_law_1050 rfl 3 rfl ?_
  refine J_callSX (g := mi_L_lengthOf) (pc := 1051) [.ref 0, .int (E.2.2.2.2.2 (i + (1 : Int32)).toNatClampNeg), .ref 62] [] ms_L_lengthOf w_922 (k_L_lengthOf_0_62 (E.2.2.2.2.2 (i + (1 : Int32)).toNatClampNeg) _ e1) rfl rfl (rm_law (Nat.le_of_ble_eq_true rfl) (Nat.le_of_ble_eq_true rfl) (show k + 1 ≤ 601024 by omega) (show n + 6 ≤ 7293034 by omega)) (Nat.le_of_ble_eq_true rfl) dL_law_1051 (Jk_vk (k + 1) (n + 6) rfl rfl fun _ => ?_)
  refine J_istore (pc := 1054) (L' := [(0, .ref 63), (1, .ref 0), (2, .ref 53), (3, .ref 62), (4, .int i), (5, .int r)]) dL_law_1054 (by decide) [1, 2, 3, 4, 5, 0] rfl ?_
  refine J_aload_n (pc := 1056) dL_law_1056 rfl 2 rfl ?_
  refine J_aload_n (pc := 1057) dL_law_1057 rfl 0 rfl ?_
  refine J_iload (pc := 1058) dL_law_1058 4 rfl ?_
  refine J_iconst (v := (1 : Int32)) (pc := 1060) dL_law_1060 (by decide) ?_
  refine J_iadd (pc := 1061) dL_law_1061 ?_
  refine J_sld (pc := 1062) hi1 dL_law_1062 ?_
  refine J_callV (g := mi_X4_lengthOf) (ci := 4) (pc := 1063) [.int (E.2.2.2.2.2 (i + (1 : Int32)).toNatClampNeg)] [] mv_X4_lengthOf w_1369 (k_X4_lengthOf (E.2.2.2.2.2 (i + (1 : Int32)).toNatClampNeg) _ e2) rfl (by decide) rfl rfl rfl (rm_law (Nat.le_of_ble_eq_true rfl) (Nat.le_of_ble_eq_true rfl) (show (k + 1) + 0 ≤ 601024 by omega) (show (n + 6) + 0 ≤ 7293034 by omega)) (Nat.le_of_ble_eq_true rfl) dL_law_1063 (Jk_v rfl rfl fun _ => ?_)
  refine J_istore (pc := 1066) (L' := [(0, .ref 63), (1, .ref 0), (2, .ref 53), (3, .ref 62), (4, .int i), (5, .int r), (6, .int b)]) dL_law_1066 (by decide) [1, 2, 3, 4, 5, 6, 0] rfl ?_
  refine J_aload_n (pc := 1068) dL_law_1068 rfl 2 rfl ?_
  refine J_callV (g := mi_X4_thrown) (ci := 4) (pc := 1069) [] [] mv_X4_thrown w_1091 (k_X4_thrown _) rfl (by decide) rfl rfl rfl (rm_law (Nat.le_of_ble_eq_true rfl) (Nat.le_of_ble_eq_true rfl) (show (k + 1) + 0 ≤ 601024 by omega) (show (n + 6) + 0 ≤ 7293034 by omega)) (Nat.le_of_ble_eq_true rfl) dL_law_1069 (Jk_v rfl rfl fun _ => ?_)
  refine J_iload (pc := 1072) dL_law_1072 5 rfl ?_
  refine J_icmp_eq (pc := 1074) (tgt := 1079) dL_law_1074 rfl (fun _ => ?_) (fun h => absurd e3 h)
  refine J_iload (pc := 1079) dL_law_1079 5 rfl ?_
  refine J_if_ne (pc := 1081) (tgt := 1096) dL_law_1081 rfl (fun _ => hend) (fun hr => ?_)
  refine J_aload_n (pc := 1084) dL_law_1084 rfl 3 rfl ?_
  refine J_iconst (v := (0 : Int32)) (pc := 1085) dL_law_1085 (by decide) ?_
  refine J_lald (pc := 1086) (i := (0 : Int32)) vin0 dL_law_1086 ?_
  refine J_iload (pc := 1087) dL_law_1087 6 rfl ?_
  refine J_i2l (pc := 1089) dL_law_1089 ?_
  refine J_lcmp (pc := 1090) dL_law_1090 ?_
  exact J_if_eq (pc := 1091) (tgt := 1096) dL_law_1091 rfl (fun _ => hend) (fun h => absurd (lg_self (e4 hr)) h)
theorem lw_c22 {κ : Kx} {E : En} {Q : State → Prop} {k n : Nat} {i : Int32} {M : Wd} (hi1 : vp_in (i + (1 : Int32)) E.2.2.2.2.1) (hi2 : vp_in (i + (2 : Int32)) E.2.2.2.2.1) (hi3 : vp_in (i + (3 : Int32)) E.2.2.2.2.1) (hM : Inv M) (hk : k + 2 ≤ 601024) (hn : n + 12 ≤ 7293034) (kk : ∀ M', Inv M' → J κ E mi_law Q (k + 2) (n + 12) [(0, .ref 63), (1, .ref 0), (2, .ref 53), (3, .ref 62), (4, .int i)] M' 1976 []) : J κ E mi_law Q k n [(0, .ref 63), (1, .ref 0), (2, .ref 53), (3, .ref 62), (4, .int i)] M 1099 [] := by
  obtain ⟨r, M1, b, M2, e1, e2, e3, e4, e5⟩ := t_carOn (E.2.2.2.2.2 (i + (1 : Int32)).toNatClampNeg) M hM
  have hend : J κ E mi_law Q (k + 1) (n + 6) [(0, .ref 63), (1, .ref 0), (2, .ref 53), (3, .ref 62), (4, .int i), (5, .int r), (6, .int b)] M2 1152 [] := by
    refine J_goto (pc := 1152) (tgt := 1976) dL_law_1152 rfl ?_
    refine J_wide (k' := k + 2) (n' := n + 12) (by omega) (by omega) ?_
    refine J_sub (L' := [(0, .ref 63), (1, .ref 0), (2, .ref 53), (3, .ref 62), (4, .int i)]) [0, 1, 2, 3, 4] rfl ?_
    exact kk _ e5
  refine J_aload_n (pc := 1099) dL_law_1099 rfl 1 rfl ?_
  refine J_aload_n (pc := 1100) dL_law_1100 rfl 0 rfl ?_
  refine J_iload (pc := 1101) dL_law_1101 4 rfl ?_
  refine J_iconst (v := (1 : Int32)) (pc := 1103) dL_law_1103 (by decide) ?_
  refine J_iadd (pc := 1104) dL_law_1104 ?_
  refine J_sld (pc := 1105) hi1 dL_law_1105 ?_
  refine J_aload_n (pc := 1106) dL_law_1106 rfl 3 rfl ?_
  refine J_callSX (g := mi_L_carOn) (pc := 1107) [.ref 0, .int (E.2.2.2.2.2 (i + (1 : Int32)).toNatClampNeg), .ref 62] [] ms_L_carOn w_929 (k_L_carOn_0_62 (E.2.2.2.2.2 (i + (1 : Int32)).toNatClampNeg) _ e1) rfl rfl (rm_law (Nat.le_of_ble_eq_true rfl) (Nat.le_of_ble_eq_true rfl) (show k + 1 ≤ 601024 by omega) (show n + 6 ≤ 7293034 by omega)) (Nat.le_of_ble_eq_true rfl) dL_law_1107 (Jk_vk (k + 1) (n + 6) rfl rfl fun _ => ?_)
  refine J_istore (pc := 1110) (L' := [(0, .ref 63), (1, .ref 0), (2, .ref 53), (3, .ref 62), (4, .int i), (5, .int r)]) dL_law_1110 (by decide) [1, 2, 3, 4, 5, 0] rfl ?_
  refine J_aload_n (pc := 1112) dL_law_1112 rfl 2 rfl ?_
  refine J_aload_n (pc := 1113) dL_law_1113 rfl 0 rfl ?_
  refine J_iload (pc := 1114) dL_law_1114 4 rfl ?_
  refine J_iconst (v := (1 : Int32)) (pc := 1116) dL_law_1116 (by decide) ?_
  refine J_iadd (pc := 1117) dL_law_1117 ?_
  refine J_sld (pc := 1118) hi1 dL_law_1118 ?_
  refine J_callV (g := mi_X4_carOn) (ci := 4) (pc := 1119) [.int (E.2.2.2.2.2 (i + (1 : Int32)).toNatClampNeg)] [] mv_X4_carOn w_1373 (k_X4_carOn (E.2.2.2.2.2 (i + (1 : Int32)).toNatClampNeg) _ e2) rfl (by decide) rfl rfl rfl (rm_law (Nat.le_of_ble_eq_true rfl) (Nat.le_of_ble_eq_true rfl) (show (k + 1) + 0 ≤ 601024 by omega) (show (n + 6) + 0 ≤ 7293034 by omega)) (Nat.le_of_ble_eq_true rfl) dL_law_1119 (Jk_v rfl rfl fun _ => ?_)
  refine J_istore (pc := 1122) (L' := [(0, .ref 63), (1, .ref 0), (2, .ref 53), (3, .ref 62), (4, .int i), (5, .int r), (6, .int b)]) dL_law_1122 (by decide) [1, 2, 3, 4, 5, 6, 0] rfl ?_
  refine J_aload_n (pc := 1124) dL_law_1124 rfl 2 rfl ?_
  refine J_callV (g := mi_X4_thrown) (ci := 4) (pc := 1125) [] [] mv_X4_thrown w_1091 (k_X4_thrown _) rfl (by decide) rfl rfl rfl (rm_law (Nat.le_of_ble_eq_true rfl) (Nat.le_of_ble_eq_true rfl) (show (k + 1) + 0 ≤ 601024 by omega) (show (n + 6) + 0 ≤ 7293034 by omega)) (Nat.le_of_ble_eq_true rfl) dL_law_1125 (Jk_v rfl rfl fun _ => ?_)
  refine J_iload (pc := 1128) dL_law_1128 5 rfl ?_
  refine J_icmp_eq (pc := 1130) (tgt := 1135) dL_law_1130 rfl (fun _ => ?_) (fun h => absurd e3 h)
  refine J_iload (pc := 1135) dL_law_1135 5 rfl ?_
  refine J_if_ne (pc := 1137) (tgt := 1152) dL_law_1137 rfl (fun _ => hend) (fun hr => ?_)
  refine J_aload_n (pc := 1140) dL_law_1140 rfl 3 rfl ?_
  refine J_iconst (v := (0 : Int32)) (pc := 1141) dL_law_1141 (by decide) ?_
  refine J_lald (pc := 1142) (i := (0 : Int32)) vin0 dL_law_1142 ?_
  refine J_iload (pc := 1143) dL_law_1143 6 rfl ?_
  refine J_i2l (pc := 1145) dL_law_1145 ?_
  refine J_lcmp (pc := 1146) dL_law_1146 ?_
  exact J_if_eq (pc := 1147) (tgt := 1152) dL_law_1147 rfl (fun _ => hend) (fun h => absurd (lg_self (e4 hr)) h)
theorem lw_c23 {κ : Kx} {E : En} {Q : State → Prop} {k n : Nat} {i : Int32} {M : Wd} (hi1 : vp_in (i + (1 : Int32)) E.2.2.2.2.1) (hi2 : vp_in (i + (2 : Int32)) E.2.2.2.2.1) (hi3 : vp_in (i + (3 : Int32)) E.2.2.2.2.1) (hM : Inv M) (hk : k + 2 ≤ 601024) (hn : n + 12 ≤ 7293034) (kk : ∀ M', Inv M' → J κ E mi_law Q (k + 2) (n + 12) [(0, .ref 63), (1, .ref 0), (2, .ref 53), (3, .ref 62), (4, .int i)] M' 1976 []) : J κ E mi_law Q k n [(0, .ref 63), (1, .ref 0), (2, .ref 53), (3, .ref 62), (4, .int i)] M 1155 [] := by
  obtain ⟨r, M1, b, M2, e1, e2, e3, e4, -, e5⟩ := t_isWall (E.2.2.2.2.2 (i + (1 : Int32)).toNatClampNeg) M hM
  have hend : J κ E mi_law Q (k + 1) (n + 6) [(0, .ref 63), (1, .ref 0), (2, .ref 53), (3, .ref 62), (4, .int i), (5, .int r), (6, .int b)] M2 1215 [] := by
    refine J_goto (pc := 1215) (tgt := 1976) dL_law_1215 rfl ?_
    refine J_wide (k' := k + 2) (n' := n + 12) (by omega) (by omega) ?_
    refine J_sub (L' := [(0, .ref 63), (1, .ref 0), (2, .ref 53), (3, .ref 62), (4, .int i)]) [0, 1, 2, 3, 4] rfl ?_
    exact kk _ e5
  refine J_aload_n (pc := 1155) dL_law_1155 rfl 1 rfl ?_
  refine J_aload_n (pc := 1156) dL_law_1156 rfl 0 rfl ?_
  refine J_iload (pc := 1157) dL_law_1157 4 rfl ?_
  refine J_iconst (v := (1 : Int32)) (pc := 1159) dL_law_1159 (by decide) ?_
  refine J_iadd (pc := 1160) dL_law_1160 ?_
  refine J_sld (pc := 1161) hi1 dL_law_1161 ?_
  refine J_aload_n (pc := 1162) dL_law_1162 rfl 3 rfl ?_
  refine J_callSX (g := mi_L_isWall) (pc := 1163) [.ref 0, .int (E.2.2.2.2.2 (i + (1 : Int32)).toNatClampNeg), .ref 62] [] ms_L_isWall w_938 (k_L_isWall_0_62 (E.2.2.2.2.2 (i + (1 : Int32)).toNatClampNeg) _ e1) rfl rfl (rm_law (Nat.le_of_ble_eq_true rfl) (Nat.le_of_ble_eq_true rfl) (show k + 1 ≤ 601024 by omega) (show n + 6 ≤ 7293034 by omega)) (Nat.le_of_ble_eq_true rfl) dL_law_1163 (Jk_vk (k + 1) (n + 6) rfl rfl fun _ => ?_)
  refine J_istore (pc := 1166) (L' := [(0, .ref 63), (1, .ref 0), (2, .ref 53), (3, .ref 62), (4, .int i), (5, .int r)]) dL_law_1166 (by decide) [1, 2, 3, 4, 5, 0] rfl ?_
  refine J_aload_n (pc := 1168) dL_law_1168 rfl 2 rfl ?_
  refine J_aload_n (pc := 1169) dL_law_1169 rfl 0 rfl ?_
  refine J_iload (pc := 1170) dL_law_1170 4 rfl ?_
  refine J_iconst (v := (1 : Int32)) (pc := 1172) dL_law_1172 (by decide) ?_
  refine J_iadd (pc := 1173) dL_law_1173 ?_
  refine J_sld (pc := 1174) hi1 dL_law_1174 ?_
  refine J_callV (g := mi_X4_isWall) (ci := 4) (pc := 1175) [.int (E.2.2.2.2.2 (i + (1 : Int32)).toNatClampNeg)] [] mv_X4_isWall w_1381 (k_X4_isWall (E.2.2.2.2.2 (i + (1 : Int32)).toNatClampNeg) _ e2) rfl (by decide) rfl rfl rfl (rm_law (Nat.le_of_ble_eq_true rfl) (Nat.le_of_ble_eq_true rfl) (show (k + 1) + 0 ≤ 601024 by omega) (show (n + 6) + 0 ≤ 7293034 by omega)) (Nat.le_of_ble_eq_true rfl) dL_law_1175 (Jk_v rfl rfl fun _ => ?_)
  refine J_istore (pc := 1178) (L' := [(0, .ref 63), (1, .ref 0), (2, .ref 53), (3, .ref 62), (4, .int i), (5, .int r), (6, .int b)]) dL_law_1178 (by decide) [1, 2, 3, 4, 5, 6, 0] rfl ?_
  refine J_aload_n (pc := 1180) dL_law_1180 rfl 2 rfl ?_
  refine J_callV (g := mi_X4_thrown) (ci := 4) (pc := 1181) [] [] mv_X4_thrown w_1091 (k_X4_thrown _) rfl (by decide) rfl rfl rfl (rm_law (Nat.le_of_ble_eq_true rfl) (Nat.le_of_ble_eq_true rfl) (show (k + 1) + 0 ≤ 601024 by omega) (show (n + 6) + 0 ≤ 7293034 by omega)) (Nat.le_of_ble_eq_true rfl) dL_law_1181 (Jk_v rfl rfl fun _ => ?_)
  refine J_iload (pc := 1184) dL_law_1184 5 rfl ?_
  refine J_icmp_eq (pc := 1186) (tgt := 1191) dL_law_1186 rfl (fun _ => ?_) (fun h => absurd e3 h)
  refine J_iload (pc := 1191) dL_law_1191 5 rfl ?_
  refine J_if_ne (pc := 1193) (tgt := 1215) dL_law_1193 rfl (fun _ => hend) (fun hr => ?_)
  refine J_aload_n (pc := 1196) dL_law_1196 rfl 3 rfl ?_
  refine J_iconst (v := (0 : Int32)) (pc := 1197) dL_law_1197 (by decide) ?_
  refine J_lald (pc := 1198) (i := (0 : Int32)) vin0 dL_law_1198 ?_
  refine J_iload (pc := 1199) dL_law_1199 6 rfl ?_
  refine J_if_eq (pc := 1201) (tgt := 1208) dL_law_1201 rfl (fun hb => ?_) (fun hb => ?_)
  · refine J_lconst (v := (0 : Int64)) (pc := 1208) dL_law_1208 (by decide) ?_
    refine J_lcmp (pc := 1209) dL_law_1209 ?_
    exact J_if_eq (pc := 1210) (tgt := 1215) dL_law_1210 rfl (fun _ => hend) (fun h => absurd (lg_self ((e4 hr).trans (if_pos hb))) h)
  · refine J_lconst (v := (1 : Int64)) (pc := 1204) dL_law_1204 (by decide) ?_
    refine J_goto (pc := 1205) (tgt := 1209) dL_law_1205 rfl ?_
    refine J_lcmp (pc := 1209) dL_law_1209 ?_
    exact J_if_eq (pc := 1210) (tgt := 1215) dL_law_1210 rfl (fun _ => hend) (fun h => absurd (lg_self ((e4 hr).trans (if_neg hb))) h)
theorem lw_c24 {κ : Kx} {E : En} {Q : State → Prop} {k n : Nat} {i : Int32} {M : Wd} (hi1 : vp_in (i + (1 : Int32)) E.2.2.2.2.1) (hi2 : vp_in (i + (2 : Int32)) E.2.2.2.2.1) (hi3 : vp_in (i + (3 : Int32)) E.2.2.2.2.1) (hM : Inv M) (hk : k + 2 ≤ 601024) (hn : n + 12 ≤ 7293034) (kk : ∀ M', Inv M' → J κ E mi_law Q (k + 2) (n + 12) [(0, .ref 63), (1, .ref 0), (2, .ref 53), (3, .ref 62), (4, .int i)] M' 1976 []) : J κ E mi_law Q k n [(0, .ref 63), (1, .ref 0), (2, .ref 53), (3, .ref 62), (4, .int i)] M 1218 [] := by
  obtain ⟨v, M1, M2, e1, e2, e3⟩ := t_freeCells M hM
  have e1' : (obind (F_X3_freeCells M) fun v => some (v, M)) = some (v, M1) := e1
  obtain ⟨u, e4, e5⟩ := obind_e e1'
  obtain ⟨rfl, rfl⟩ := Prod.mk.inj (Option.some.inj e5)
  refine J_aload_n (pc := 1218) dL_law_1218 rfl 1 rfl ?_
  refine J_callV (g := mi_X3_freeCells) (ci := 3) (pc := 1219) [] [] mv_X3_freeCells w_333 (k_X3_freeCells _ e4) rfl (by decide) rfl rfl rfl (rm_law (Nat.le_of_ble_eq_true rfl) (Nat.le_of_ble_eq_true rfl) (show k + 0 ≤ 601024 by omega) (show n + 0 ≤ 7293034 by omega)) (Nat.le_of_ble_eq_true rfl) dL_law_1219 (Jk_v rfl rfl fun _ => ?_)
  refine J_aload_n (pc := 1222) dL_law_1222 rfl 2 rfl ?_
  refine J_callV (g := mi_X4_freeCells) (ci := 4) (pc := 1223) [] [.int u] mv_X4_freeCells w_1385 (k_X4_freeCells _ e2) rfl (by decide) rfl rfl rfl (rm_law (Nat.le_of_ble_eq_true rfl) (Nat.le_of_ble_eq_true rfl) (show k + 0 ≤ 601024 by omega) (show n + 0 ≤ 7293034 by omega)) (Nat.le_of_ble_eq_true rfl) dL_law_1223 (Jk_v rfl rfl fun _ => ?_)
  refine J_icmp_eq (pc := 1226) (tgt := 1976) dL_law_1226 rfl (fun _ => ?_) (fun h => absurd rfl h)
  refine J_wide (k' := k + 2) (n' := n + 12) (by omega) (by omega) ?_
  exact kk _ e3
theorem lw_c25 {κ : Kx} {E : En} {Q : State → Prop} {k n : Nat} {i : Int32} {M : Wd} (hi1 : vp_in (i + (1 : Int32)) E.2.2.2.2.1) (hi2 : vp_in (i + (2 : Int32)) E.2.2.2.2.1) (hi3 : vp_in (i + (3 : Int32)) E.2.2.2.2.1) (hM : Inv M) (hk : k + 2 ≤ 601024) (hn : n + 12 ≤ 7293034) (kk : ∀ M', Inv M' → J κ E mi_law Q (k + 2) (n + 12) [(0, .ref 63), (1, .ref 0), (2, .ref 53), (3, .ref 62), (4, .int i)] M' 1976 []) : J κ E mi_law Q k n [(0, .ref 63), (1, .ref 0), (2, .ref 53), (3, .ref 62), (4, .int i)] M 1231 [] := by
  obtain ⟨v, M1, M2, e1, e2, e3⟩ := t_isOut M hM
  have e1' : some (F_X3_isOut M, M) = some (v, M1) := e1
  obtain ⟨rfl, rfl⟩ := Prod.mk.inj (Option.some.inj e1')
  refine J_aload_n (pc := 1231) dL_law_1231 rfl 1 rfl ?_
  refine J_callV (g := mi_X3_isOut) (ci := 3) (pc := 1232) [] [] mv_X3_isOut w_345 (k_X3_isOut _) rfl (by decide) rfl rfl rfl (rm_law (Nat.le_of_ble_eq_true rfl) (Nat.le_of_ble_eq_true rfl) (show k + 0 ≤ 601024 by omega) (show n + 0 ≤ 7293034 by omega)) (Nat.le_of_ble_eq_true rfl) dL_law_1232 (Jk_v rfl rfl fun _ => ?_)
  refine J_aload_n (pc := 1235) dL_law_1235 rfl 2 rfl ?_
  refine J_callV (g := mi_X4_isOut) (ci := 4) (pc := 1236) [] [.int (F_X3_isOut M)] mv_X4_isOut w_1389 (k_X4_isOut _ e2) rfl (by decide) rfl rfl rfl (rm_law (Nat.le_of_ble_eq_true rfl) (Nat.le_of_ble_eq_true rfl) (show k + 0 ≤ 601024 by omega) (show n + 0 ≤ 7293034 by omega)) (Nat.le_of_ble_eq_true rfl) dL_law_1236 (Jk_v rfl rfl fun _ => ?_)
  refine J_icmp_eq (pc := 1239) (tgt := 1976) dL_law_1239 rfl (fun _ => ?_) (fun h => absurd rfl h)
  refine J_wide (k' := k + 2) (n' := n + 12) (by omega) (by omega) ?_
  exact kk _ e3

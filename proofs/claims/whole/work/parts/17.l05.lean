/-! ===== the law's cases, from 39 ===== -/
theorem lw_c39 {κ : Kx} {E : En} {Q : State → Prop} {k n : Nat} {i : Int32} {M : Wd} (hi1 : vp_in (i + (1 : Int32)) E.2.2.2.2.1) (hi2 : vp_in (i + (2 : Int32)) E.2.2.2.2.1) (hi3 : vp_in (i + (3 : Int32)) E.2.2.2.2.1) (hM : Inv M) (hk : k + 2 ≤ 601024) (hn : n + 12 ≤ 7293034) (kk : ∀ M', Inv M' → J κ E mi_law Q (k + 2) (n + 12) [(0, .ref 63), (1, .ref 0), (2, .ref 53), (3, .ref 62), (4, .int i)] M' 1976 []) : J κ E mi_law Q k n [(0, .ref 63), (1, .ref 0), (2, .ref 53), (3, .ref 62), (4, .int i)] M 1613 [] := by
  obtain ⟨r, M1, b, M2, e1, e2, e3, e4, e5⟩ := t_nextCar M hM
  have hend : J κ E mi_law Q (k + 1) (n + 6) [(0, .ref 63), (1, .ref 0), (2, .ref 53), (3, .ref 62), (4, .int i), (5, .int r), (6, .int b)] M2 1654 [] := by
    refine J_goto (pc := 1654) (tgt := 1976) dL_law_1654 rfl ?_
    refine J_wide (k' := k + 2) (n' := n + 12) (by omega) (by omega) ?_
    refine J_sub (L' := [(0, .ref 63), (1, .ref 0), (2, .ref 53), (3, .ref 62), (4, .int i)]) [0, 1, 2, 3, 4] rfl ?_
    exact kk _ e5
  refine J_aload_n (pc := 1613) dL_law_1613 rfl 1 rfl ?_
  refine J_aload_n (pc := 1614) dL_law_1614 rfl 3 rfl ?_
  refine J_callSX (g := mi_L_nextCar) (pc := 1615) [.ref 0, .ref 62] [] ms_L_nextCar w_975 (k_L_nextCar_0_62 _ e1) rfl rfl (rm_law (Nat.le_of_ble_eq_true rfl) (Nat.le_of_ble_eq_true rfl) (show k + 1 ≤ 601024 by omega) (show n + 6 ≤ 7293034 by omega)) (Nat.le_of_ble_eq_true rfl) dL_law_1615 (Jk_vk (k + 1) (n + 6) rfl rfl fun _ => ?_)
  refine J_istore (pc := 1618) (L' := [(0, .ref 63), (1, .ref 0), (2, .ref 53), (3, .ref 62), (4, .int i), (5, .int r)]) dL_law_1618 (by decide) [1, 2, 3, 4, 5, 0] rfl ?_
  refine J_aload_n (pc := 1620) dL_law_1620 rfl 2 rfl ?_
  refine J_callV (g := mi_X4_nextCar) (ci := 4) (pc := 1621) [] [] mv_X4_nextCar w_1493 (k_X4_nextCar _ e2) rfl (by decide) rfl rfl rfl (rm_law (Nat.le_of_ble_eq_true rfl) (Nat.le_of_ble_eq_true rfl) (show (k + 1) + 0 ≤ 601024 by omega) (show (n + 6) + 0 ≤ 7293034 by omega)) (Nat.le_of_ble_eq_true rfl) dL_law_1621 (Jk_v rfl rfl fun _ => ?_)
  refine J_istore (pc := 1624) (L' := [(0, .ref 63), (1, .ref 0), (2, .ref 53), (3, .ref 62), (4, .int i), (5, .int r), (6, .int b)]) dL_law_1624 (by decide) [1, 2, 3, 4, 5, 6, 0] rfl ?_
  refine J_aload_n (pc := 1626) dL_law_1626 rfl 2 rfl ?_
  refine J_callV (g := mi_X4_thrown) (ci := 4) (pc := 1627) [] [] mv_X4_thrown w_1091 (k_X4_thrown _) rfl (by decide) rfl rfl rfl (rm_law (Nat.le_of_ble_eq_true rfl) (Nat.le_of_ble_eq_true rfl) (show (k + 1) + 0 ≤ 601024 by omega) (show (n + 6) + 0 ≤ 7293034 by omega)) (Nat.le_of_ble_eq_true rfl) dL_law_1627 (Jk_v rfl rfl fun _ => ?_)
  refine J_iload (pc := 1630) dL_law_1630 5 rfl ?_
  refine J_icmp_eq (pc := 1632) (tgt := 1637) dL_law_1632 rfl (fun _ => ?_) (fun h => absurd e3 h)
  refine J_iload (pc := 1637) dL_law_1637 5 rfl ?_
  refine J_if_ne (pc := 1639) (tgt := 1654) dL_law_1639 rfl (fun _ => hend) (fun hr => ?_)
  refine J_aload_n (pc := 1642) dL_law_1642 rfl 3 rfl ?_
  refine J_iconst (v := (0 : Int32)) (pc := 1643) dL_law_1643 (by decide) ?_
  refine J_lald (pc := 1644) (i := (0 : Int32)) vin0 dL_law_1644 ?_
  refine J_iload (pc := 1645) dL_law_1645 6 rfl ?_
  refine J_i2l (pc := 1647) dL_law_1647 ?_
  refine J_lcmp (pc := 1648) dL_law_1648 ?_
  exact J_if_eq (pc := 1649) (tgt := 1654) dL_law_1649 rfl (fun _ => hend) (fun h => absurd (lg_self (e4 hr)) h)
theorem lw_c40 {κ : Kx} {E : En} {Q : State → Prop} {k n : Nat} {i : Int32} {M : Wd} (hi1 : vp_in (i + (1 : Int32)) E.2.2.2.2.1) (hi2 : vp_in (i + (2 : Int32)) E.2.2.2.2.1) (hi3 : vp_in (i + (3 : Int32)) E.2.2.2.2.1) (hM : Inv M) (hk : k + 2 ≤ 601024) (hn : n + 12 ≤ 7293034) (kk : ∀ M', Inv M' → J κ E mi_law Q (k + 2) (n + 12) [(0, .ref 63), (1, .ref 0), (2, .ref 53), (3, .ref 62), (4, .int i)] M' 1976 []) : J κ E mi_law Q k n [(0, .ref 63), (1, .ref 0), (2, .ref 53), (3, .ref 62), (4, .int i)] M 1657 [] := by
  obtain ⟨r, M1, b, M2, e1, e2, e3, e4, e5⟩ := t_nextChange M hM
  have hend : J κ E mi_law Q (k + 1) (n + 6) [(0, .ref 63), (1, .ref 0), (2, .ref 53), (3, .ref 62), (4, .int i), (5, .int r), (6, .int b)] M2 1698 [] := by
    refine J_goto (pc := 1698) (tgt := 1976) dL_law_1698 rfl ?_
    refine J_wide (k' := k + 2) (n' := n + 12) (by omega) (by omega) ?_
    refine J_sub (L' := [(0, .ref 63), (1, .ref 0), (2, .ref 53), (3, .ref 62), (4, .int i)]) [0, 1, 2, 3, 4] rfl ?_
    exact kk _ e5
  refine J_aload_n (pc := 1657) dL_law_1657 rfl 1 rfl ?_
  refine J_aload_n (pc := 1658) dL_law_1658 rfl 3 rfl ?_
  refine J_callSX (g := mi_L_nextChange) (pc := 1659) [.ref 0, .ref 62] [] ms_L_nextChange w_987 (k_L_nextChange_0_62 _ e1) rfl rfl (rm_law (Nat.le_of_ble_eq_true rfl) (Nat.le_of_ble_eq_true rfl) (show k + 1 ≤ 601024 by omega) (show n + 6 ≤ 7293034 by omega)) (Nat.le_of_ble_eq_true rfl) dL_law_1659 (Jk_vk (k + 1) (n + 6) rfl rfl fun _ => ?_)
  refine J_istore (pc := 1662) (L' := [(0, .ref 63), (1, .ref 0), (2, .ref 53), (3, .ref 62), (4, .int i), (5, .int r)]) dL_law_1662 (by decide) [1, 2, 3, 4, 5, 0] rfl ?_
  refine J_aload_n (pc := 1664) dL_law_1664 rfl 2 rfl ?_
  refine J_callV (g := mi_X4_nextChange) (ci := 4) (pc := 1665) [] [] mv_X4_nextChange w_1501 (k_X4_nextChange _ e2) rfl (by decide) rfl rfl rfl (rm_law (Nat.le_of_ble_eq_true rfl) (Nat.le_of_ble_eq_true rfl) (show (k + 1) + 0 ≤ 601024 by omega) (show (n + 6) + 0 ≤ 7293034 by omega)) (Nat.le_of_ble_eq_true rfl) dL_law_1665 (Jk_v rfl rfl fun _ => ?_)
  refine J_istore (pc := 1668) (L' := [(0, .ref 63), (1, .ref 0), (2, .ref 53), (3, .ref 62), (4, .int i), (5, .int r), (6, .int b)]) dL_law_1668 (by decide) [1, 2, 3, 4, 5, 6, 0] rfl ?_
  refine J_aload_n (pc := 1670) dL_law_1670 rfl 2 rfl ?_
  refine J_callV (g := mi_X4_thrown) (ci := 4) (pc := 1671) [] [] mv_X4_thrown w_1091 (k_X4_thrown _) rfl (by decide) rfl rfl rfl (rm_law (Nat.le_of_ble_eq_true rfl) (Nat.le_of_ble_eq_true rfl) (show (k + 1) + 0 ≤ 601024 by omega) (show (n + 6) + 0 ≤ 7293034 by omega)) (Nat.le_of_ble_eq_true rfl) dL_law_1671 (Jk_v rfl rfl fun _ => ?_)
  refine J_iload (pc := 1674) dL_law_1674 5 rfl ?_
  refine J_icmp_eq (pc := 1676) (tgt := 1681) dL_law_1676 rfl (fun _ => ?_) (fun h => absurd e3 h)
  refine J_iload (pc := 1681) dL_law_1681 5 rfl ?_
  refine J_if_ne (pc := 1683) (tgt := 1698) dL_law_1683 rfl (fun _ => hend) (fun hr => ?_)
  refine J_aload_n (pc := 1686) dL_law_1686 rfl 3 rfl ?_
  refine J_iconst (v := (0 : Int32)) (pc := 1687) dL_law_1687 (by decide) ?_
  refine J_lald (pc := 1688) (i := (0 : Int32)) vin0 dL_law_1688 ?_
  refine J_iload (pc := 1689) dL_law_1689 6 rfl ?_
  refine J_i2l (pc := 1691) dL_law_1691 ?_
  refine J_lcmp (pc := 1692) dL_law_1692 ?_
  exact J_if_eq (pc := 1693) (tgt := 1698) dL_law_1693 rfl (fun _ => hend) (fun h => absurd (lg_self (e4 hr)) h)
theorem lw_c41 {κ : Kx} {E : En} {Q : State → Prop} {k n : Nat} {i : Int32} {M : Wd} (hi1 : vp_in (i + (1 : Int32)) E.2.2.2.2.1) (hi2 : vp_in (i + (2 : Int32)) E.2.2.2.2.1) (hi3 : vp_in (i + (3 : Int32)) E.2.2.2.2.1) (hM : Inv M) (hk : k + 2 ≤ 601024) (hn : n + 12 ≤ 7293034) (kk : ∀ M', Inv M' → J κ E mi_law Q (k + 2) (n + 12) [(0, .ref 63), (1, .ref 0), (2, .ref 53), (3, .ref 62), (4, .int i)] M' 1976 []) : J κ E mi_law Q k n [(0, .ref 63), (1, .ref 0), (2, .ref 53), (3, .ref 62), (4, .int i)] M 1701 [] := by
  obtain ⟨v, M1, M2, e1, e2, e3⟩ := t_reachable M hM
  refine J_aload_n (pc := 1701) dL_law_1701 rfl 1 rfl ?_
  refine J_callV (g := mi_X3_reachable) (ci := 3) (pc := 1702) [] [] mv_X3_reachable w_522 (k_X3_reachable _ e1) rfl (by decide) rfl rfl rfl (rm_law (Nat.le_of_ble_eq_true rfl) (Nat.le_of_ble_eq_true rfl) (show k + 0 ≤ 601024 by omega) (show n + 0 ≤ 7293034 by omega)) (Nat.le_of_ble_eq_true rfl) dL_law_1702 (Jk_v rfl rfl fun _ => ?_)
  refine J_aload_n (pc := 1705) dL_law_1705 rfl 2 rfl ?_
  refine J_callV (g := mi_X4_reachable) (ci := 4) (pc := 1706) [] [.int v] mv_X4_reachable w_1505 (k_X4_reachable _ e2) rfl (by decide) rfl rfl rfl (rm_law (Nat.le_of_ble_eq_true rfl) (Nat.le_of_ble_eq_true rfl) (show k + 0 ≤ 601024 by omega) (show n + 0 ≤ 7293034 by omega)) (Nat.le_of_ble_eq_true rfl) dL_law_1706 (Jk_v rfl rfl fun _ => ?_)
  refine J_icmp_eq (pc := 1709) (tgt := 1976) dL_law_1709 rfl (fun _ => ?_) (fun h => absurd rfl h)
  refine J_wide (k' := k + 2) (n' := n + 12) (by omega) (by omega) ?_
  exact kk _ e3
theorem lw_c42 {κ : Kx} {E : En} {Q : State → Prop} {k n : Nat} {i : Int32} {M : Wd} (hi1 : vp_in (i + (1 : Int32)) E.2.2.2.2.1) (hi2 : vp_in (i + (2 : Int32)) E.2.2.2.2.1) (hi3 : vp_in (i + (3 : Int32)) E.2.2.2.2.1) (hM : Inv M) (hk : k + 2 ≤ 601024) (hn : n + 12 ≤ 7293034) (kk : ∀ M', Inv M' → J κ E mi_law Q (k + 2) (n + 12) [(0, .ref 63), (1, .ref 0), (2, .ref 53), (3, .ref 62), (4, .int i)] M' 1976 []) : J κ E mi_law Q k n [(0, .ref 63), (1, .ref 0), (2, .ref 53), (3, .ref 62), (4, .int i)] M 1714 [] := by
  obtain ⟨v, M1, M2, e1, e2, e3⟩ := t_reachableOut M hM
  refine J_aload_n (pc := 1714) dL_law_1714 rfl 1 rfl ?_
  refine J_callV (g := mi_X3_reachableOut) (ci := 3) (pc := 1715) [] [] mv_X3_reachableOut w_527 (k_X3_reachableOut _ e1) rfl (by decide) rfl rfl rfl (rm_law (Nat.le_of_ble_eq_true rfl) (Nat.le_of_ble_eq_true rfl) (show k + 0 ≤ 601024 by omega) (show n + 0 ≤ 7293034 by omega)) (Nat.le_of_ble_eq_true rfl) dL_law_1715 (Jk_v rfl rfl fun _ => ?_)
  refine J_aload_n (pc := 1718) dL_law_1718 rfl 2 rfl ?_
  refine J_callV (g := mi_X4_reachableOut) (ci := 4) (pc := 1719) [] [.int v] mv_X4_reachableOut w_1513 (k_X4_reachableOut _ e2) rfl (by decide) rfl rfl rfl (rm_law (Nat.le_of_ble_eq_true rfl) (Nat.le_of_ble_eq_true rfl) (show k + 0 ≤ 601024 by omega) (show n + 0 ≤ 7293034 by omega)) (Nat.le_of_ble_eq_true rfl) dL_law_1719 (Jk_v rfl rfl fun _ => ?_)
  refine J_icmp_eq (pc := 1722) (tgt := 1976) dL_law_1722 rfl (fun _ => ?_) (fun h => absurd rfl h)
  refine J_wide (k' := k + 2) (n' := n + 12) (by omega) (by omega) ?_
  exact kk _ e3
theorem lw_c43 {κ : Kx} {E : En} {Q : State → Prop} {k n : Nat} {i : Int32} {M : Wd} (hi1 : vp_in (i + (1 : Int32)) E.2.2.2.2.1) (hi2 : vp_in (i + (2 : Int32)) E.2.2.2.2.1) (hi3 : vp_in (i + (3 : Int32)) E.2.2.2.2.1) (hM : Inv M) (hk : k + 2 ≤ 601024) (hn : n + 12 ≤ 7293034) (kk : ∀ M', Inv M' → J κ E mi_law Q (k + 2) (n + 12) [(0, .ref 63), (1, .ref 0), (2, .ref 53), (3, .ref 62), (4, .int i)] M' 1976 []) : J κ E mi_law Q k n [(0, .ref 63), (1, .ref 0), (2, .ref 53), (3, .ref 62), (4, .int i)] M 1727 [] := by
  obtain ⟨v, M1, M2, e1, e2, e3⟩ := t_farthest M hM
  refine J_aload_n (pc := 1727) dL_law_1727 rfl 1 rfl ?_
  refine J_callV (g := mi_X3_farthest) (ci := 3) (pc := 1728) [] [] mv_X3_farthest w_535 (k_X3_farthest _ e1) rfl (by decide) rfl rfl rfl (rm_law (Nat.le_of_ble_eq_true rfl) (Nat.le_of_ble_eq_true rfl) (show k + 0 ≤ 601024 by omega) (show n + 0 ≤ 7293034 by omega)) (Nat.le_of_ble_eq_true rfl) dL_law_1728 (Jk_v rfl rfl fun _ => ?_)
  refine J_aload_n (pc := 1731) dL_law_1731 rfl 2 rfl ?_
  refine J_callV (g := mi_X4_farthest) (ci := 4) (pc := 1732) [] [.int v] mv_X4_farthest w_1517 (k_X4_farthest _ e2) rfl (by decide) rfl rfl rfl (rm_law (Nat.le_of_ble_eq_true rfl) (Nat.le_of_ble_eq_true rfl) (show k + 0 ≤ 601024 by omega) (show n + 0 ≤ 7293034 by omega)) (Nat.le_of_ble_eq_true rfl) dL_law_1732 (Jk_v rfl rfl fun _ => ?_)
  refine J_icmp_eq (pc := 1735) (tgt := 1976) dL_law_1735 rfl (fun _ => ?_) (fun h => absurd rfl h)
  refine J_wide (k' := k + 2) (n' := n + 12) (by omega) (by omega) ?_
  exact kk _ e3
theorem lw_c44 {κ : Kx} {E : En} {Q : State → Prop} {k n : Nat} {i : Int32} {M : Wd} (hi1 : vp_in (i + (1 : Int32)) E.2.2.2.2.1) (hi2 : vp_in (i + (2 : Int32)) E.2.2.2.2.1) (hi3 : vp_in (i + (3 : Int32)) E.2.2.2.2.1) (hM : Inv M) (hk : k + 2 ≤ 601024) (hn : n + 12 ≤ 7293034) (kk : ∀ M', Inv M' → J κ E mi_law Q (k + 2) (n + 12) [(0, .ref 63), (1, .ref 0), (2, .ref 53), (3, .ref 62), (4, .int i)] M' 1976 []) : J κ E mi_law Q k n [(0, .ref 63), (1, .ref 0), (2, .ref 53), (3, .ref 62), (4, .int i)] M 1740 [] := by
  obtain ⟨v, M1, M2, e1, e2, e3⟩ := t_arrangements M hM
  refine J_aload_n (pc := 1740) dL_law_1740 rfl 1 rfl ?_
  refine J_callV (g := mi_X3_arrangements) (ci := 3) (pc := 1741) [] [] mv_X3_arrangements w_543 (k_X3_arrangements _ e1) rfl (by decide) rfl rfl rfl (rm_law (Nat.le_of_ble_eq_true rfl) (Nat.le_of_ble_eq_true rfl) (show k + 0 ≤ 601024 by omega) (show n + 0 ≤ 7293034 by omega)) (Nat.le_of_ble_eq_true rfl) dL_law_1741 (Jk_v rfl rfl fun _ => ?_)
  refine J_aload_n (pc := 1744) dL_law_1744 rfl 2 rfl ?_
  refine J_callV (g := mi_X4_arrangements) (ci := 4) (pc := 1745) [] [.int v] mv_X4_arrangements w_1521 (k_X4_arrangements _ e2) rfl (by decide) rfl rfl rfl (rm_law (Nat.le_of_ble_eq_true rfl) (Nat.le_of_ble_eq_true rfl) (show k + 0 ≤ 601024 by omega) (show n + 0 ≤ 7293034 by omega)) (Nat.le_of_ble_eq_true rfl) dL_law_1745 (Jk_v rfl rfl fun _ => ?_)
  refine J_icmp_eq (pc := 1748) (tgt := 1976) dL_law_1748 rfl (fun _ => ?_) (fun h => absurd rfl h)
  refine J_wide (k' := k + 2) (n' := n + 12) (by omega) (by omega) ?_
  exact kk _ e3
theorem lw_c45 {κ : Kx} {E : En} {Q : State → Prop} {k n : Nat} {i : Int32} {M : Wd} (hi1 : vp_in (i + (1 : Int32)) E.2.2.2.2.1) (hi2 : vp_in (i + (2 : Int32)) E.2.2.2.2.1) (hi3 : vp_in (i + (3 : Int32)) E.2.2.2.2.1) (hM : Inv M) (hk : k + 2 ≤ 601024) (hn : n + 12 ≤ 7293034) (kk : ∀ M', Inv M' → J κ E mi_law Q (k + 2) (n + 12) [(0, .ref 63), (1, .ref 0), (2, .ref 53), (3, .ref 62), (4, .int i)] M' 1976 []) : J κ E mi_law Q k n [(0, .ref 63), (1, .ref 0), (2, .ref 53), (3, .ref 62), (4, .int i)] M 1753 [] := by
  obtain ⟨r, M1, b, M2, e1, e2, e3, e4, e5⟩ := t_fewestBehind (E.2.2.2.2.2 (i + (1 : Int32)).toNatClampNeg) (E.2.2.2.2.2 (i + (2 : Int32)).toNatClampNeg) M hM
  have hend : J κ E mi_law Q (k + 1) (n + 6) [(0, .ref 63), (1, .ref 0), (2, .ref 53), (3, .ref 62), (4, .int i), (5, .int r), (6, .int b)] M2 1818 [] := by
    refine J_goto (pc := 1818) (tgt := 1976) dL_law_1818 rfl ?_
    refine J_wide (k' := k + 2) (n' := n + 12) (by omega) (by omega) ?_
    refine J_sub (L' := [(0, .ref 63), (1, .ref 0), (2, .ref 53), (3, .ref 62), (4, .int i)]) [0, 1, 2, 3, 4] rfl ?_
    exact kk _ e5
  refine J_aload_n (pc := 1753) dL_law_1753 rfl 1 rfl ?_
  refine J_aload_n (pc := 1754) dL_law_1754 rfl 0 rfl ?_
  refine J_iload (pc := 1755) dL_law_1755 4 rfl ?_
  refine J_iconst (v := (1 : Int32)) (pc := 1757) dL_law_1757 (by decide) ?_
  refine J_iadd (pc := 1758) dL_law_1758 ?_
  refine J_sld (pc := 1759) hi1 dL_law_1759 ?_
  refine J_aload_n (pc := 1760) dL_law_1760 rfl 0 rfl ?_
  refine J_iload (pc := 1761) dL_law_1761 4 rfl ?_
  refine J_iconst (v := (2 : Int32)) (pc := 1763) dL_law_1763 (by decide) ?_
  refine J_iadd (pc := 1764) dL_law_1764 ?_
  refine J_sld (pc := 1765) hi2 dL_law_1765 ?_
  refine J_aload_n (pc := 1766) dL_law_1766 rfl 3 rfl ?_
  refine J_callSX (g := mi_L_fewestBehind) (pc := 1767) [.ref 0, .int (E.2.2.2.2.2 (i + (1 : Int32)).toNatClampNeg), .int (E.2.2.2.2.2 (i + (2 : Int32)).toNatClampNeg), .ref 62] [] ms_L_fewestBehind w_994 (k_L_fewestBehind_0_62 (E.2.2.2.2.2 (i + (1 : Int32)).toNatClampNeg) (E.2.2.2.2.2 (i + (2 : Int32)).toNatClampNeg) _ e1) rfl rfl (rm_law (Nat.le_of_ble_eq_true rfl) (Nat.le_of_ble_eq_true rfl) (show k + 1 ≤ 601024 by omega) (show n + 6 ≤ 7293034 by omega)) (Nat.le_of_ble_eq_true rfl) dL_law_1767 (Jk_vk (k + 1) (n + 6) rfl rfl fun _ => ?_)
  refine J_istore (pc := 1770) (L' := [(0, .ref 63), (1, .ref 0), (2, .ref 53), (3, .ref 62), (4, .int i), (5, .int r)]) dL_law_1770 (by decide) [1, 2, 3, 4, 5, 0] rfl ?_
  refine J_aload_n (pc := 1772) dL_law_1772 rfl 2 rfl ?_
  refine J_aload_n (pc := 1773) dL_law_1773 rfl 0 rfl ?_
  refine J_iload (pc := 1774) dL_law_1774 4 rfl ?_
  refine J_iconst (v := (1 : Int32)) (pc := 1776) dL_law_1776 (by decide) ?_
  refine J_iadd (pc := 1777) dL_law_1777 ?_
  refine J_sld (pc := 1778) hi1 dL_law_1778 ?_
  refine J_aload_n (pc := 1779) dL_law_1779 rfl 0 rfl ?_
  refine J_iload (pc := 1780) dL_law_1780 4 rfl ?_
  refine J_iconst (v := (2 : Int32)) (pc := 1782) dL_law_1782 (by decide) ?_
  refine J_iadd (pc := 1783) dL_law_1783 ?_
  refine J_sld (pc := 1784) hi2 dL_law_1784 ?_
  refine J_callV (g := mi_X4_fewestBehind) (ci := 4) (pc := 1785) [.int (E.2.2.2.2.2 (i + (1 : Int32)).toNatClampNeg), .int (E.2.2.2.2.2 (i + (2 : Int32)).toNatClampNeg)] [] mv_X4_fewestBehind w_1529 (k_X4_fewestBehind (E.2.2.2.2.2 (i + (1 : Int32)).toNatClampNeg) (E.2.2.2.2.2 (i + (2 : Int32)).toNatClampNeg) _ e2) rfl (by decide) rfl rfl rfl (rm_law (Nat.le_of_ble_eq_true rfl) (Nat.le_of_ble_eq_true rfl) (show (k + 1) + 0 ≤ 601024 by omega) (show (n + 6) + 0 ≤ 7293034 by omega)) (Nat.le_of_ble_eq_true rfl) dL_law_1785 (Jk_v rfl rfl fun _ => ?_)
  refine J_istore (pc := 1788) (L' := [(0, .ref 63), (1, .ref 0), (2, .ref 53), (3, .ref 62), (4, .int i), (5, .int r), (6, .int b)]) dL_law_1788 (by decide) [1, 2, 3, 4, 5, 6, 0] rfl ?_
  refine J_aload_n (pc := 1790) dL_law_1790 rfl 2 rfl ?_
  refine J_callV (g := mi_X4_thrown) (ci := 4) (pc := 1791) [] [] mv_X4_thrown w_1091 (k_X4_thrown _) rfl (by decide) rfl rfl rfl (rm_law (Nat.le_of_ble_eq_true rfl) (Nat.le_of_ble_eq_true rfl) (show (k + 1) + 0 ≤ 601024 by omega) (show (n + 6) + 0 ≤ 7293034 by omega)) (Nat.le_of_ble_eq_true rfl) dL_law_1791 (Jk_v rfl rfl fun _ => ?_)
  refine J_iload (pc := 1794) dL_law_1794 5 rfl ?_
  refine J_icmp_eq (pc := 1796) (tgt := 1801) dL_law_1796 rfl (fun _ => ?_) (fun h => absurd e3 h)
  refine J_iload (pc := 1801) dL_law_1801 5 rfl ?_
  refine J_if_ne (pc := 1803) (tgt := 1818) dL_law_1803 rfl (fun _ => hend) (fun hr => ?_)
  refine J_aload_n (pc := 1806) dL_law_1806 rfl 3 rfl ?_
  refine J_iconst (v := (0 : Int32)) (pc := 1807) dL_law_1807 (by decide) ?_
  refine J_lald (pc := 1808) (i := (0 : Int32)) vin0 dL_law_1808 ?_
  refine J_iload (pc := 1809) dL_law_1809 6 rfl ?_
  refine J_i2l (pc := 1811) dL_law_1811 ?_
  refine J_lcmp (pc := 1812) dL_law_1812 ?_
  exact J_if_eq (pc := 1813) (tgt := 1818) dL_law_1813 rfl (fun _ => hend) (fun h => absurd (lg_self (e4 hr)) h)
theorem lw_c46 {κ : Kx} {E : En} {Q : State → Prop} {k n : Nat} {i : Int32} {M : Wd} (hi1 : vp_in (i + (1 : Int32)) E.2.2.2.2.1) (hi2 : vp_in (i + (2 : Int32)) E.2.2.2.2.1) (hi3 : vp_in (i + (3 : Int32)) E.2.2.2.2.1) (hM : Inv M) (hk : k + 2 ≤ 601024) (hn : n + 12 ≤ 7293034) (kk : ∀ M', Inv M' → J κ E mi_law Q (k + 2) (n + 12) [(0, .ref 63), (1, .ref 0), (2, .ref 53), (3, .ref 62), (4, .int i)] M' 1976 []) : J κ E mi_law Q k n [(0, .ref 63), (1, .ref 0), (2, .ref 53), (3, .ref 62), (4, .int i)] M 1821 [] := by
  obtain ⟨r, M1, b, M2, e1, e2, e3, e4, e5⟩ := t_fewestWithoutLast M hM
  have hend : J κ E mi_law Q (k + 1) (n + 6) [(0, .ref 63), (1, .ref 0), (2, .ref 53), (3, .ref 62), (4, .int i), (5, .int r), (6, .int b)] M2 1862 [] := by
    refine J_goto (pc := 1862) (tgt := 1976) dL_law_1862 rfl ?_
    refine J_wide (k' := k + 2) (n' := n + 12) (by omega) (by omega) ?_
    refine J_sub (L' := [(0, .ref 63), (1, .ref 0), (2, .ref 53), (3, .ref 62), (4, .int i)]) [0, 1, 2, 3, 4] rfl ?_
    exact kk _ e5
  refine J_aload_n (pc := 1821) dL_law_1821 rfl 1 rfl ?_
  refine J_aload_n (pc := 1822) dL_law_1822 rfl 3 rfl ?_
  refine J_callSX (g := mi_L_fewestWithoutLast) (pc := 1823) [.ref 0, .ref 62] [] ms_L_fewestWithoutLast w_1001 (k_L_fewestWithoutLast_0_62 _ e1) rfl rfl (rm_law (Nat.le_of_ble_eq_true rfl) (Nat.le_of_ble_eq_true rfl) (show k + 1 ≤ 601024 by omega) (show n + 6 ≤ 7293034 by omega)) (Nat.le_of_ble_eq_true rfl) dL_law_1823 (Jk_vk (k + 1) (n + 6) rfl rfl fun _ => ?_)
  refine J_istore (pc := 1826) (L' := [(0, .ref 63), (1, .ref 0), (2, .ref 53), (3, .ref 62), (4, .int i), (5, .int r)]) dL_law_1826 (by decide) [1, 2, 3, 4, 5, 0] rfl ?_
  refine J_aload_n (pc := 1828) dL_law_1828 rfl 2 rfl ?_
  refine J_callV (g := mi_X4_fewestWithoutLast) (ci := 4) (pc := 1829) [] [] mv_X4_fewestWithoutLast w_1533 (k_X4_fewestWithoutLast _ e2) rfl (by decide) rfl rfl rfl (rm_law (Nat.le_of_ble_eq_true rfl) (Nat.le_of_ble_eq_true rfl) (show (k + 1) + 0 ≤ 601024 by omega) (show (n + 6) + 0 ≤ 7293034 by omega)) (Nat.le_of_ble_eq_true rfl) dL_law_1829 (Jk_v rfl rfl fun _ => ?_)
  refine J_istore (pc := 1832) (L' := [(0, .ref 63), (1, .ref 0), (2, .ref 53), (3, .ref 62), (4, .int i), (5, .int r), (6, .int b)]) dL_law_1832 (by decide) [1, 2, 3, 4, 5, 6, 0] rfl ?_
  refine J_aload_n (pc := 1834) dL_law_1834 rfl 2 rfl ?_
  refine J_callV (g := mi_X4_thrown) (ci := 4) (pc := 1835) [] [] mv_X4_thrown w_1091 (k_X4_thrown _) rfl (by decide) rfl rfl rfl (rm_law (Nat.le_of_ble_eq_true rfl) (Nat.le_of_ble_eq_true rfl) (show (k + 1) + 0 ≤ 601024 by omega) (show (n + 6) + 0 ≤ 7293034 by omega)) (Nat.le_of_ble_eq_true rfl) dL_law_1835 (Jk_v rfl rfl fun _ => ?_)
  refine J_iload (pc := 1838) dL_law_1838 5 rfl ?_
  refine J_icmp_eq (pc := 1840) (tgt := 1845) dL_law_1840 rfl (fun _ => ?_) (fun h => absurd e3 h)
  refine J_iload (pc := 1845) dL_law_1845 5 rfl ?_
  refine J_if_ne (pc := 1847) (tgt := 1862) dL_law_1847 rfl (fun _ => hend) (fun hr => ?_)
  refine J_aload_n (pc := 1850) dL_law_1850 rfl 3 rfl ?_
  refine J_iconst (v := (0 : Int32)) (pc := 1851) dL_law_1851 (by decide) ?_
  refine J_lald (pc := 1852) (i := (0 : Int32)) vin0 dL_law_1852 ?_
  refine J_iload (pc := 1853) dL_law_1853 6 rfl ?_
  refine J_i2l (pc := 1855) dL_law_1855 ?_
  refine J_lcmp (pc := 1856) dL_law_1856 ?_
  exact J_if_eq (pc := 1857) (tgt := 1862) dL_law_1857 rfl (fun _ => hend) (fun h => absurd (lg_self (e4 hr)) h)
theorem lw_c47 {κ : Kx} {E : En} {Q : State → Prop} {k n : Nat} {i : Int32} {M : Wd} (hi1 : vp_in (i + (1 : Int32)) E.2.2.2.2.1) (hi2 : vp_in (i + (2 : Int32)) E.2.2.2.2.1) (hi3 : vp_in (i + (3 : Int32)) E.2.2.2.2.1) (hM : Inv M) (hk : k + 2 ≤ 601024) (hn : n + 12 ≤ 7293034) (kk : ∀ M', Inv M' → J κ E mi_law Q (k + 2) (n + 12) [(0, .ref 63), (1, .ref 0), (2, .ref 53), (3, .ref 62), (4, .int i)] M' 1976 []) : J κ E mi_law Q k n [(0, .ref 63), (1, .ref 0), (2, .ref 53), (3, .ref 62), (4, .int i)] M 1865 [] := by
  obtain ⟨r, M1, b, M2, e1, e2, e3, e4, e5⟩ := t_fewestWithWall (E.2.2.2.2.2 (i + (1 : Int32)).toNatClampNeg) M hM
  have hend : J κ E mi_law Q (k + 1) (n + 6) [(0, .ref 63), (1, .ref 0), (2, .ref 53), (3, .ref 62), (4, .int i), (5, .int r), (6, .int b)] M2 1918 [] := by
    refine J_goto (pc := 1918) (tgt := 1976) dL_law_1918 rfl ?_
    refine J_wide (k' := k + 2) (n' := n + 12) (by omega) (by omega) ?_
    refine J_sub (L' := [(0, .ref 63), (1, .ref 0), (2, .ref 53), (3, .ref 62), (4, .int i)]) [0, 1, 2, 3, 4] rfl ?_
    exact kk _ e5
  refine J_aload_n (pc := 1865) dL_law_1865 rfl 1 rfl ?_
  refine J_aload_n (pc := 1866) dL_law_1866 rfl 0 rfl ?_
  refine J_iload (pc := 1867) dL_law_1867 4 rfl ?_
  refine J_iconst (v := (1 : Int32)) (pc := 1869) dL_law_1869 (by decide) ?_
  refine J_iadd (pc := 1870) dL_law_1870 ?_
  refine J_sld (pc := 1871) hi1 dL_law_1871 ?_
  refine J_aload_n (pc := 1872) dL_law_1872 rfl 3 rfl ?_
  refine J_callSX (g := mi_L_fewestWithWall) (pc := 1873) [.ref 0, .int (E.2.2.2.2.2 (i + (1 : Int32)).toNatClampNeg), .ref 62] [] ms_L_fewestWithWall w_1009 (k_L_fewestWithWall_0_62 (E.2.2.2.2.2 (i + (1 : Int32)).toNatClampNeg) _ e1) rfl rfl (rm_law (Nat.le_of_ble_eq_true rfl) (Nat.le_of_ble_eq_true rfl) (show k + 1 ≤ 601024 by omega) (show n + 6 ≤ 7293034 by omega)) (Nat.le_of_ble_eq_true rfl) dL_law_1873 (Jk_vk (k + 1) (n + 6) rfl rfl fun _ => ?_)
  refine J_istore (pc := 1876) (L' := [(0, .ref 63), (1, .ref 0), (2, .ref 53), (3, .ref 62), (4, .int i), (5, .int r)]) dL_law_1876 (by decide) [1, 2, 3, 4, 5, 0] rfl ?_
  refine J_aload_n (pc := 1878) dL_law_1878 rfl 2 rfl ?_
  refine J_aload_n (pc := 1879) dL_law_1879 rfl 0 rfl ?_
  refine J_iload (pc := 1880) dL_law_1880 4 rfl ?_
  refine J_iconst (v := (1 : Int32)) (pc := 1882) dL_law_1882 (by decide) ?_
  refine J_iadd (pc := 1883) dL_law_1883 ?_
  refine J_sld (pc := 1884) hi1 dL_law_1884 ?_
  refine J_callV (g := mi_X4_fewestWithWall) (ci := 4) (pc := 1885) [.int (E.2.2.2.2.2 (i + (1 : Int32)).toNatClampNeg)] [] mv_X4_fewestWithWall w_1537 (k_X4_fewestWithWall (E.2.2.2.2.2 (i + (1 : Int32)).toNatClampNeg) _ e2) rfl (by decide) rfl rfl rfl (rm_law (Nat.le_of_ble_eq_true rfl) (Nat.le_of_ble_eq_true rfl) (show (k + 1) + 0 ≤ 601024 by omega) (show (n + 6) + 0 ≤ 7293034 by omega)) (Nat.le_of_ble_eq_true rfl) dL_law_1885 (Jk_v rfl rfl fun _ => ?_)
  refine J_istore (pc := 1888) (L' := [(0, .ref 63), (1, .ref 0), (2, .ref 53), (3, .ref 62), (4, .int i), (5, .int r), (6, .int b)]) dL_law_1888 (by decide) [1, 2, 3, 4, 5, 6, 0] rfl ?_
  refine J_aload_n (pc := 1890) dL_law_1890 rfl 2 rfl ?_
  refine J_callV (g := mi_X4_thrown) (ci := 4) (pc := 1891) [] [] mv_X4_thrown w_1091 (k_X4_thrown _) rfl (by decide) rfl rfl rfl (rm_law (Nat.le_of_ble_eq_true rfl) (Nat.le_of_ble_eq_true rfl) (show (k + 1) + 0 ≤ 601024 by omega) (show (n + 6) + 0 ≤ 7293034 by omega)) (Nat.le_of_ble_eq_true rfl) dL_law_1891 (Jk_v rfl rfl fun _ => ?_)
  refine J_iload (pc := 1894) dL_law_1894 5 rfl ?_
  refine J_icmp_eq (pc := 1896) (tgt := 1901) dL_law_1896 rfl (fun _ => ?_) (fun h => absurd e3 h)
  refine J_iload (pc := 1901) dL_law_1901 5 rfl ?_
  refine J_if_ne (pc := 1903) (tgt := 1918) dL_law_1903 rfl (fun _ => hend) (fun hr => ?_)
  refine J_aload_n (pc := 1906) dL_law_1906 rfl 3 rfl ?_
  refine J_iconst (v := (0 : Int32)) (pc := 1907) dL_law_1907 (by decide) ?_
  refine J_lald (pc := 1908) (i := (0 : Int32)) vin0 dL_law_1908 ?_
  refine J_iload (pc := 1909) dL_law_1909 6 rfl ?_
  refine J_i2l (pc := 1911) dL_law_1911 ?_
  refine J_lcmp (pc := 1912) dL_law_1912 ?_
  exact J_if_eq (pc := 1913) (tgt := 1918) dL_law_1913 rfl (fun _ => hend) (fun h => absurd (lg_self (e4 hr)) h)
theorem lw_c48 {κ : Kx} {E : En} {Q : State → Prop} {k n : Nat} {i : Int32} {M : Wd} (hi1 : vp_in (i + (1 : Int32)) E.2.2.2.2.1) (hi2 : vp_in (i + (2 : Int32)) E.2.2.2.2.1) (hi3 : vp_in (i + (3 : Int32)) E.2.2.2.2.1) (hM : Inv M) (hk : k + 2 ≤ 601024) (hn : n + 12 ≤ 7293034) (kk : ∀ M', Inv M' → J κ E mi_law Q (k + 2) (n + 12) [(0, .ref 63), (1, .ref 0), (2, .ref 53), (3, .ref 62), (4, .int i)] M' 1976 []) : J κ E mi_law Q k n [(0, .ref 63), (1, .ref 0), (2, .ref 53), (3, .ref 62), (4, .int i)] M 1921 [] := by
  obtain ⟨v, M1, M2, e1, e2, e3⟩ := t_reachedShare M hM
  have hend : J κ E mi_law Q k n [(0, .ref 63), (1, .ref 0), (2, .ref 53), (3, .ref 62), (4, .int i), (5, .double v), (7, .double v)] M2 1959 [] := by
    refine J_goto (pc := 1959) (tgt := 1976) dL_law_1959 rfl ?_
    refine J_wide (k' := k + 2) (n' := n + 12) (by omega) (by omega) ?_
    refine J_sub (L' := [(0, .ref 63), (1, .ref 0), (2, .ref 53), (3, .ref 62), (4, .int i)]) [0, 1, 2, 3, 4] rfl ?_
    exact kk _ e3
  refine J_aload_n (pc := 1921) dL_law_1921 rfl 1 rfl ?_
  refine J_callV (g := mi_X3_reachedShare) (ci := 3) (pc := 1922) [] [] mv_X3_reachedShare w_551 (k_X3_reachedShare _ e1) rfl (by decide) rfl rfl rfl (rm_law (Nat.le_of_ble_eq_true rfl) (Nat.le_of_ble_eq_true rfl) (show k + 0 ≤ 601024 by omega) (show n + 0 ≤ 7293034 by omega)) (Nat.le_of_ble_eq_true rfl) dL_law_1922 (Jk_v rfl rfl fun _ => ?_)
  refine J_dstore (pc := 1925) (L' := [(0, .ref 63), (1, .ref 0), (2, .ref 53), (3, .ref 62), (4, .int i), (5, .double v)]) dL_law_1925 (by decide) [1, 2, 3, 4, 5, 0] rfl ?_
  refine J_aload_n (pc := 1927) dL_law_1927 rfl 2 rfl ?_
  refine J_callV (g := mi_X4_reachedShare) (ci := 4) (pc := 1928) [] [] mv_X4_reachedShare w_1541 (k_X4_reachedShare _ e2) rfl (by decide) rfl rfl rfl (rm_law (Nat.le_of_ble_eq_true rfl) (Nat.le_of_ble_eq_true rfl) (show k + 0 ≤ 601024 by omega) (show n + 0 ≤ 7293034 by omega)) (Nat.le_of_ble_eq_true rfl) dL_law_1928 (Jk_v rfl rfl fun _ => ?_)
  refine J_dstore (pc := 1931) (L' := [(0, .ref 63), (1, .ref 0), (2, .ref 53), (3, .ref 62), (4, .int i), (5, .double v), (7, .double v)]) dL_law_1931 (by decide) [1, 2, 3, 4, 5, 6, 0] rfl ?_
  refine J_dload (pc := 1933) dL_law_1933 5 rfl ?_
  refine J_dload (pc := 1935) dL_law_1935 6 rfl ?_
  refine J_dcmp (pc := 1937) dL_law_1937 ?_
  refine J_if_eq (pc := 1938) (tgt := 1959) dL_law_1938 rfl (fun _ => hend) (fun h1 => ?_)
  refine J_dload (pc := 1941) dL_law_1941 5 rfl ?_
  refine J_dload (pc := 1943) dL_law_1943 5 rfl ?_
  refine J_dcmp (pc := 1945) dL_law_1945 ?_
  refine J_if_eq (pc := 1946) (tgt := 1957) dL_law_1946 rfl (fun h => absurd h h1) (fun _ => ?_)
  refine J_dload (pc := 1949) dL_law_1949 6 rfl ?_
  refine J_dload (pc := 1951) dL_law_1951 6 rfl ?_
  refine J_dcmp (pc := 1953) dL_law_1953 ?_
  exact J_if_ne (pc := 1954) (tgt := 1959) dL_law_1954 rfl (fun _ => hend) (fun h => absurd h h1)
theorem lw_c49 {κ : Kx} {E : En} {Q : State → Prop} {k n : Nat} {i : Int32} {M : Wd} (hi1 : vp_in (i + (1 : Int32)) E.2.2.2.2.1) (hi2 : vp_in (i + (2 : Int32)) E.2.2.2.2.1) (hi3 : vp_in (i + (3 : Int32)) E.2.2.2.2.1) (hM : Inv M) (hk : k + 2 ≤ 601024) (hn : n + 12 ≤ 7293034) (kk : ∀ M', Inv M' → J κ E mi_law Q (k + 2) (n + 12) [(0, .ref 63), (1, .ref 0), (2, .ref 53), (3, .ref 62), (4, .int i)] M' 1976 []) : J κ E mi_law Q k n [(0, .ref 63), (1, .ref 0), (2, .ref 53), (3, .ref 62), (4, .int i)] M 1962 [] := by
  obtain ⟨v, M1, M2, e1, e2, e3⟩ := t_digest M hM
  refine J_aload_n (pc := 1962) dL_law_1962 rfl 1 rfl ?_
  refine J_callV (g := mi_X3_digest) (ci := 3) (pc := 1963) [] [] mv_X3_digest w_558 (k_X3_digest _ e1) rfl (by decide) rfl rfl rfl (rm_law (Nat.le_of_ble_eq_true rfl) (Nat.le_of_ble_eq_true rfl) (show k + 0 ≤ 601024 by omega) (show n + 0 ≤ 7293034 by omega)) (Nat.le_of_ble_eq_true rfl) dL_law_1963 (Jk_v rfl rfl fun _ => ?_)
  refine J_aload_n (pc := 1966) dL_law_1966 rfl 2 rfl ?_
  refine J_callV (g := mi_X4_digest) (ci := 4) (pc := 1967) [] [.long v] mv_X4_digest w_1549 (k_X4_digest _ e2) rfl (by decide) rfl rfl rfl (rm_law (Nat.le_of_ble_eq_true rfl) (Nat.le_of_ble_eq_true rfl) (show k + 0 ≤ 601024 by omega) (show n + 0 ≤ 7293034 by omega)) (Nat.le_of_ble_eq_true rfl) dL_law_1967 (Jk_v rfl rfl fun _ => ?_)
  refine J_lcmp (pc := 1970) dL_law_1970 ?_
  refine J_if_eq (pc := 1971) (tgt := 1976) dL_law_1971 rfl (fun _ => ?_) (fun h => absurd (lg_self rfl) h)
  refine J_wide (k' := k + 2) (n' := n + 12) (by omega) (by omega) ?_
  exact kk _ e3

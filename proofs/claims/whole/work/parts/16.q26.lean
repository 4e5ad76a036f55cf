/-! ===== calls that change more ===== -/
/-- all slides taken back -/
def rwP (lc : Nat → Nat) (lb : Nat → Int) : Nat → (Nat → Nat) → Nat → Nat
  | 0, P => P
  | k + 1, P => rwP lc lb k (updN P (lc k) ((P (lc k) : Int) - lb k).toNat)
section RW
variable {n w : Nat} {z : Int} {L G lc : Nat → Nat} {lb : Nat → Int}
theorem wf_back1 {k : Nat} {P : Nat → Nat} (hW : PkW n w (k + 1) z L P G lc lb) : ((((P (lc k) : Int) - lb k).toNat : Nat) : Int) = (P (lc k) : Int) - lb k ∧ PkW n w k z L (updN P (lc k) ((P (lc k) : Int) - lb k).toNat) G lc lb ∧ lc k < n := by
  obtain ⟨q, q1, q2, q3⟩ := wf_back hW
  rw [show ((P (lc k) : Int) - lb k).toNat = q by omega]
  exact ⟨q1, q2, q3⟩
theorem wf_rw : ∀ (k : Nat) (P : Nat → Nat), PkW n w k z L P G lc lb → PkW n w 0 z L (rwP lc lb k P) G lc lb
  | 0, _, h => h
  | k + 1, _, h => wf_rw k _ (wf_back1 h).2.1
theorem crw_loop {ρ : Type} {K : Int32 → Wd → Option ρ} : ∀ (k j q : Nat) (P : Nat → Nat) (M : Wd), j + k ≤ 60 → PkC 1 n w k z L P G lc lb M → PkW n w k z L P G lc lb →
    ∃ M', F_X3_rewind_L6 K (q + 1 + k) (iI (j : Int)) M = K (iI ((j + k : Nat) : Int)) M' ∧ PkC 1 n w 0 z L (rwP lc lb k P) G lc lb M' ∧ frC1 M M'
  | 0, j, q, P, M, hj, h, hW => by
    refine ⟨M, ?_, h, frC1.rf M⟩
    show (if (60 : Int32) ≤ iI (j : Int) then K (iI (j : Int)) M else if (M.1 1 7) ≤ 0 then K (iI (j : Int)) M else _) = K (iI (j : Int)) M
    rw [h.vk, if_pos (show iI ((0 : Nat) : Int) ≤ 0 by decide), ite_self]
  | k + 1, j, q, P, M, hj, h, hW => by
    obtain ⟨e1, e2, e3⟩ := wf_back1 hW
    obtain ⟨M1, f1, f2, f3⟩ := unmake_I h hW e1 e3
    show ∃ M', (if (60 : Int32) ≤ iI (j : Int) then K (iI (j : Int)) M else if (M.1 1 7) ≤ 0 then K (iI (j : Int)) M else obind2 (F_X1_unmakeSlide M) fun v5 M6 => bnd (iI (j : Int) + (1 : Int32)) fun v9 => F_X3_rewind_L6 K (q + 1 + k) v9 M6) = _ ∧ _
    rw [show (60 : Int32) = iI 60 from rfl, if_le (by omega) (by omega) (by omega) (by omega), if_neg (by omega), h.vk, iL_0, if_le (by omega) (by omega) (by omega) (by omega), if_neg (by omega), f1, ob2_s, s1_I, bnd_v]
    obtain ⟨M2, k1, k2, k3⟩ := crw_loop (K := K) k (j + 1) q _ M1 (by omega) f2 e2
    refine ⟨M2, ?_, k2, f3.tr k3⟩
    rw [k1, show j + 1 + k = j + (k + 1) by omega]
theorem mrw_loop {v : Int32} {ρ : Type} {K : Wd → Option ρ} : ∀ (k q : Nat) (P : Nat → Nat) (M : Wd), PkM 55 0 n w k z L P G lc lb M → PkW n w k z L P G lc lb →
    ∃ M', F_X4_rewind_L17 v K (q + 1 + k) M = K M' ∧ PkM 55 0 n w 0 z L (rwP lc lb k P) G lc lb M' ∧ frM1 M M'
  | 0, q, P, M, h, hW => by
    refine ⟨M, ?_, h, frM1.rf M⟩
    show (if (M.1 55 20) ≤ 0 then K M else _) = K M
    rw [h.vk, if_pos (show iI ((0 : Nat) : Int) ≤ 0 by decide)]
  | k + 1, q, P, M, h, hW => by
    have hk := hW.k60
    obtain ⟨e1, e2, e3⟩ := wf_back1 hW
    obtain ⟨M1, f1, f2, f3⟩ := backOn_I h hW e1 e3
    show ∃ M', (if (M.1 55 20) ≤ 0 then K M else obind2 (F_X4_backOn M) fun v6 M7 => F_X4_rewind_L17 v K (q + 1 + k) M7) = _ ∧ _
    rw [h.vk, iL_0, if_le (by omega) (by omega) (by omega) (by omega), if_neg (by omega), f1, ob2_s]
    obtain ⟨M2, k1, k2, k3⟩ := mrw_loop (v := v) (K := K) k q _ M1 f2 e2
    exact ⟨M2, k1, k2, f3.tr k3⟩
end RW
theorem CI.txt {S : Wst} {M N : Wd} {tl : Nat} {tc : Nat → Nat} (h : CI S M) (hc5 : sC S ≤ 5) (h1 : ∀ c, c < 44 → N.1 c = M.1 c) (h2 : N.2.2 = M.2.2) (hl : N.1 51 1 = iI (tl : Int)) (ht : ∀ i, i < tl → N.1 52 i = iI (tc i : Int)) : CI (sN S, sK S, sF S, sC S, sV S, tl, tc) N := by
  obtain ⟨a1, a2, a3, a4, a5, a6, a7, a8⟩ := h
  refine ⟨a1.cells fun j hj => h1 _ (by omega), by rw [h1 0 (by omega)]; exact a2, fun z => (a3 z).cells fun j hj => h1 _ (by omega), by rw [h1 0 (by omega)]; exact a4, fun i hi => ?_, ?_, hl, ht⟩
  · rw [h2]
    refine (a5 i hi).cells fun j hj => ?_
    have hi' : i < sC S := hi
    have := a6.1 i (by omega)
    exact h1 _ (by unfold isSv at this; omega)
  · unfold plc; rw [h2]; exact a6
theorem MI'.txt {S : Wst} {M N : Wd} {tl : Nat} {tc : Nat → Nat} (h : MI' S M) (h1 : ∀ c, 54 < c → c < 58 → N.1 c = M.1 c) (h2 : ∀ j, j = 5 ∨ j = 7 → N.1 53 j = M.1 53 j) (hl : N.1 53 2 = iI (tl : Int)) (ht : ∀ i, i < tl → N.1 54 i = iI (tc i : Int)) : MI' (sN S, sK S, sF S, sC S, sV S, tl, tc) N := by
  obtain ⟨a1, a2, a3, a4, a5, a6, a7⟩ := h
  exact ⟨a1.row (h1 _ (by omega) (by omega)), by rw [h2 7 (by omega)]; exact a2, fun z => (a3 z).row (h1 _ (by omega) (by omega)), by rw [h2 5 (by omega)]; exact a4, fun i hi => (a5 i hi).row (h1 _ (by omega) (by omega)), hl, ht⟩
theorem t_rewind : TwoV F_X3_rewind F_X4_rewind := by
  rintro M ⟨⟨⟨n, w, k, z, L, P, G, lc, lb⟩, kp, kf, c, sv, tl, tc⟩, hW, hC, hM⟩
  have h : PkC 1 n w k z L P G lc lb M := hC.1
  have hw : PkW n w k z L P G lc lb := hW.1
  have hn := hw.n6
  have hk := hw.k60
  obtain ⟨p, hp⟩ := fuelS k (by omega)
  obtain ⟨M1, f1, f2, f3⟩ := csave_I hC hW
  obtain ⟨M2, k1, k2, k3⟩ := crw_loop (K := fun v11 M12 => some (v11, M12)) k 0 p P M1 (by omega) f2.svN hw
  have hW2 := hW.sav
  refine two_v hM (hW2.now (s := (n, w, 0, z, L, rwP lc lb k P, G, lc, lb)) (wf_rw k P hw)) (v := iI (k : Int)) (M1 := M2) ?_ (f2.now hW2.2.2.1 k2 k3) (f3.tr k3.cl) (fun N hN => ?_)
  · unfold F_X3_rewind
    rw [f1, ob_s, hp, iL_0, show iI 0 = iI ((0 : Nat) : Int) from rfl, k1, Nat.zero_add]
  · obtain ⟨N1, q1, q2, q3, q4⟩ := msave_I (hN.ref (v := (0 : Int32))) hW
    have hm : PkM 55 0 n w k z L P G lc lb N1 := q2.svN
    obtain ⟨N2, r1, r2, r3⟩ := mrw_loop (v := iI (k : Int)) (K := fun M10 => some (iI (k : Int), M10)) k p P N1 hm hw
    refine ⟨N2, ?_, q2.now r2 r3, (mo_ref.tr q3).tr r3.mo⟩
    unfold F_X4_rewind
    rw [q1, ob_s, hm.vk, bnd_v, hp]
    exact r1
theorem t_append (a : Int32) : TwoX (F_L_append_0_62 a) (F_X4_append a) := by
  rintro M ⟨⟨⟨n, w, k, z, L, P, G, lc, lb⟩, kp, kf, c, sv, tl, tc⟩, hW, hC, hM⟩
  have h : PkC 1 n w k z L P G lc lb M := hC.1
  have hw : PkW n w k z L P G lc lb := hW.1
  have hn := hw.n6
  obtain ⟨x, x1, x2, rfl⟩ := iI_ex a
  have htl : tl ≤ 60 := hW.2.2.2.2.1
  have h51 : M.1 51 1 = iI (tl : Int) := hC.2.2.2.2.2.2.1
  by_cases e : 33 ≤ x ∧ x ≤ 126
  · obtain ⟨i, rfl⟩ : ∃ i : Nat, x = i := ⟨x.toNat, by omega⟩
    by_cases e2 : tl < 60
    · refine two_ok (S' := ((n, w, k, z, L, P, G, lc, lb), kp, kf, c, sv, tl + 1, updN tc tl i)) hM ⟨hW.1, hW.2.1, hW.2.2.1, hW.2.2.2.1, by show tl + 1 ≤ 60; omega, fun j hj => ?_⟩ (v := iI ((tl + 1 : Nat) : Int)) (M1 := upI (upI M 52 tl (iI (i : Int))) 51 1 (iI ((tl + 1 : Nat) : Int))) ?_ (CI.txt hC hW.2.2.1 (fun c hc => ?_) rfl (by rw [upI_at, if_pos rfl]) (fun j hj => ?_)) (fun c hc => ?_) (fun N hN => ?_)
      · have hj' : j < tl + 1 := hj
        show 33 ≤ updN tc tl i j ∧ updN tc tl i j ≤ 126
        by_cases ej : j = tl
        · rw [ej, updN_s]; omega
        · rw [updN_n ej]; exact hW.2.2.2.2.2 j (show j < tl by omega)
      · unfold F_L_append_0_62 F_X3_append F_X2_add
        rw [h51, show (33 : Int32) = iI 33 from rfl, if_lt (by omega) (by omega) (by omega) (by omega), if_neg (by omega), show (126 : Int32) = iI 126 from rfl, if_le (by omega) (by omega) (by omega) (by omega), if_pos (by omega), show (60 : Int32) = iI 60 from rfl, if_lt (by omega) (by omega) (by omega) (by omega), if_pos (by omega), iL_0, if_lt (by omega) (by omega) (by omega) (by omega), if_neg (by omega), if_le (by omega) (by omega) (by omega) (by omega), if_neg (by omega), inb_N (by omega) (by omega), iI_clN (by omega), s1_I, ob_s, ob2_s, obX_l, upI_at, if_pos rfl]
      · rw [upI_row_ne (by omega), upI_row_ne (by omega)]
      · rw [upI_of (by decide), upI_at]
        by_cases ej : j = tl
        · rw [if_pos ej, ej, updN_s]
        · rw [if_neg ej, updN_n ej]; exact hC.2.2.2.2.2.2.2 j (show j < tl by omega)
      · rw [upI_row_ne (by omega), upI_row_ne (by omega)]
      · have h2 : N.1 53 2 = iI (tl : Int) := hN.2.2.2.2.2.1
        refine ⟨upI (upI (upI N 53 0 (iI 0)) 54 tl (iI (i : Int))) 53 2 (iI ((tl + 1 : Nat) : Int)), ?_, MI'.txt (hN.ref (v := iI 0)) (fun c c1 c2 => ?_) (fun j hj => ?_) (by rw [upI_at, if_pos rfl]) (fun j hj => ?_), mo_ref.tr ⟨fun c hc => by rw [upI_row_ne (by omega), upI_row_ne (by omega)], rfl, rfl⟩, by rw [upI_at, if_neg (by decide), upI_of (by decide), upI_at, if_pos rfl]⟩
        · unfold F_X4_append
          rw [in_I (b := 33) (c := 126) x1 x2 rfl rfl, if_pos e, if_neg (show ¬ iI 1 = (0 : Int32) by decide), h2, show (60 : Int32) = iI 60 from rfl, if_eq (by omega) (by omega) (by omega) (by omega), if_neg (by omega), bnd_v]
          show obind2 (F_X4_refused (iI 0) N) _ = _
          rw [refused_0, ob2_s, if_pos rfl, upI_at, if_neg (by decide), h2, inb_N (by omega) (by omega), iI_clN (by omega), s1_I]
        · rw [upI_row_ne (by omega), upI_row_ne (by omega)]
        · rw [upI_at, if_neg (by omega), upI_of (by decide)]
        · rw [upI_of (by decide), upI_at]
          by_cases ej : j = tl
          · rw [if_pos ej, ej, updN_s]
          · rw [if_neg ej, upI_of (by decide), updN_n ej]; exact hN.2.2.2.2.2.2 j (show j < tl by omega)
    · refine failX (j := 2) (by decide) (by decide) hC hM hW ?_ (fun N hN => ?_)
      · unfold F_L_append_0_62 F_X3_append
        rw [h51, show (33 : Int32) = iI 33 from rfl, if_lt (by omega) (by omega) (by omega) (by omega), if_neg (by omega), show (126 : Int32) = iI 126 from rfl, if_le (by omega) (by omega) (by omega) (by omega), if_pos (by omega), show (60 : Int32) = iI 60 from rfl, if_lt (by omega) (by omega) (by omega) (by omega), if_neg (by omega)]
        rfl
      · have h2 : N.1 53 2 = iI (tl : Int) := hN.2.2.2.2.2.1
        unfold F_X4_append
        rw [in_I (b := 33) (c := 126) x1 x2 rfl rfl, if_pos e, if_neg (show ¬ iI 1 = (0 : Int32) by decide), h2, show (60 : Int32) = iI 60 from rfl, if_eq (by omega) (by omega) (by omega) (by omega), if_pos (by omega), bnd_v]
        rfl
  · refine failX (j := 1) (by decide) (by decide) hC hM hW ?_ (fun N hN => ?_)
    · unfold F_L_append_0_62 F_X3_append
      rw [show (33 : Int32) = iI 33 from rfl, if_lt (by omega) (by omega) (by omega) (by omega), show (126 : Int32) = iI 126 from rfl, if_le (by omega) (by omega) (by omega) (by omega)]
      by_cases e3 : x < 33
      · rw [if_pos e3]; rfl
      · rw [if_neg e3, if_neg (by omega)]; rfl
    · unfold F_X4_append
      rw [in_I (b := 33) (c := 126) x1 x2 rfl rfl, if_neg e, if_pos (show iI 0 = (0 : Int32) from rfl), bnd_v]
      rfl
theorem t_clearBuffer : TwoV F_X3_clearBuffer F_X4_clearBuffer := by
  rintro M ⟨⟨⟨n, w, k, z, L, P, G, lc, lb⟩, kp, kf, c, sv, tl, tc⟩, hW, hC, hM⟩
  have h : PkC 1 n w k z L P G lc lb M := hC.1
  have hw : PkW n w k z L P G lc lb := hW.1
  have hn := hw.n6
  have h51 : M.1 51 1 = iI (tl : Int) := hC.2.2.2.2.2.2.1
  refine two_v (S' := ((n, w, k, z, L, P, G, lc, lb), kp, kf, c, sv, 0, tc)) hM ⟨hW.1, hW.2.1, hW.2.2.1, hW.2.2.2.1, Nat.zero_le _, fun j hj => ?_⟩ (v := iI (tl : Int)) (M1 := upI M 51 1 (0 : Int32)) ?_ (CI.txt hC hW.2.2.1 (fun c hc => upI_row_ne (by omega)) rfl (by rw [upI_at, if_pos rfl]; rfl) (fun j hj => ?_)) (fun c hc => upI_row_ne (by omega)) (fun N hN => ?_)
  · have : j < 0 := hj
    omega
  · unfold F_X3_clearBuffer F_X2_clear
    rw [h51]
    rfl
  · omega
  · have h2 : N.1 53 2 = iI (tl : Int) := hN.2.2.2.2.2.1
    refine ⟨upI (upI N 53 0 (0 : Int32)) 53 2 (0 : Int32), ?_, MI'.txt hN (fun c c1 c2 => by rw [upI_row_ne (by omega), upI_row_ne (by omega)]) (fun j hj => by rw [upI_at, if_neg (by omega), upI_at, if_neg (by omega)]) (by rw [upI_at, if_pos rfl]; rfl) (fun j hj => by omega), ⟨fun c hc => by rw [upI_row_ne (by omega), upI_row_ne (by omega)], rfl, rfl⟩⟩
    unfold F_X4_clearBuffer
    rw [h2]
    rfl
theorem sv_sep1 {b : Nat} (hb : isSv b ∨ b = 7) : ∀ i j, i ≤ 5 → j ≤ 5 → b + j ≠ 1 + i := fun i j hi hj => by
  unfold isSv at hb; omega
theorem t_undo : TwoX F_L_undo_0_62 F_X4_undo := by
  rintro M ⟨⟨⟨n, w, k, z, L, P, G, lc, lb⟩, kp, kf, c, sv, tl, tc⟩, hW, hC, hM⟩
  have h : PkC 1 n w k z L P G lc lb M := hC.1
  have hw : PkW n w k z L P G lc lb := hW.1
  have hn := hw.n6
  have hc5 : c ≤ 5 := hW.2.2.1
  have h05 : M.1 0 5 = iI (c : Int) := hC.2.2.2.1
  by_cases e : c = 0
  · refine failX (j := 1) (by decide) (by decide) hC hM hW ?_ (fun N hN => ?_)
    · unfold F_L_undo_0_62 F_X3_undo
      rw [h05, e]
      rfl
    · have h5 : N.1 53 5 = iI (c : Int) := hN.2.2.2.1
      unfold F_X4_undo
      rw [h5, e]
      rfl
  · obtain ⟨c', rfl⟩ : ∃ c', c = c' + 1 := ⟨c - 1, by omega⟩
    obtain ⟨a1, a2, a3, a4, a5, a6, a7, a8⟩ := id hC
    have hsv := a6.1 c' (by omega)
    have hpc : pC (M.2.2 c') (sv c') M := a5 c' (show c' < c' + 1 by omega)
    have hpw : pW (sv c') := hW.2.2.2.1 c' (show c' < c' + 1 by omega)
    have ek : iI ((c' + 1 : Nat) : Int) - iI 1 = iI (c' : Int) := by rw [iI_sub, show ((c' + 1 : Nat) : Int) - 1 = (c' : Int) by omega]
    have hU : ∀ x, x ≠ 0 → (upI M 0 5 (iI (c' : Int))).1 x = M.1 x := fun x hx => upI_row_ne hx
    have hpc2 : pC (M.2.2 c') (sv c') (upI M 0 5 (iI (c' : Int))) := hpc.cells fun j hj => hU _ (by unfold isSv at hsv; omega)
    have ho : ∀ x, ¬ (1 ≤ x ∧ x ≤ 6) → (cpP (upI M 0 5 (iI (c' : Int))) (M.2.2 c') 1).1 x = (upI M 0 5 (iI (c' : Int))).1 x := fun x hx => cpP_out (fun j hj => by omega)
    refine two_ok (S' := (sv c', kp, kf, c', sv, tl, tc)) hM ⟨hpw, hW.2.1, by show c' ≤ 5; omega, fun j hj => hW.2.2.2.1 j (show j < c' + 1 by have : j < c' := hj; omega), hW.2.2.2.2⟩ (v := iI (c' : Int)) (M1 := cpP (upI M 0 5 (iI (c' : Int))) (M.2.2 c') 1) ?_ ⟨pC_copy hpc2 hpw (sv_sep1 (Or.inl hsv)), ?_, fun z => ?_, ?_, fun i hi => ?_, a6, ?_, fun i hi => ?_⟩ (fun x hx => ?_) (fun N hN => ?_)
    · unfold F_L_undo_0_62 F_X3_undo
      rw [h05, iL_0, if_le (by omega) (by omega) (by omega) (by omega), if_neg (by omega), show (5 : Int32) = iI 5 from rfl, if_le (by omega) (by omega) (by omega) (by omega), if_pos (by omega), iL_1, ek, inb_N (by omega) (by omega), iI_clN (by omega), ccopy_I hpc2 hsv.pk rfl, ob_s, obX_l, ho 0 (by omega), upI_at, if_pos rfl]
    · rw [ho 0 (by omega), upI_at, if_neg (by decide)]; exact a2
    · refine (a3 z).cells fun j hj => ?_
      rw [ho _ (by omega), hU _ (by omega)]
    · rw [ho 0 (by omega), upI_at, if_pos rfl]
    · have hi' : i < c' := hi
      have hsi := a6.1 i (by omega)
      refine (a5 i (show i < c' + 1 by omega)).cells fun j hj => ?_
      show (cpP (upI M 0 5 (iI (c' : Int))) (M.2.2 c') 1).1 (M.2.2 i + j) = _
      rw [ho _ (by unfold isSv at hsi; omega), hU _ (by unfold isSv at hsi; omega)]
    · rw [ho _ (by omega), hU _ (by omega)]; exact a7
    · rw [ho _ (by omega), hU _ (by omega)]; exact a8 i hi
    · rw [ho _ (by omega), hU _ (by omega)]
    · obtain ⟨b1, b2, b3, b4, b5, b6, b7⟩ := id hN
      have h5 : N.1 53 5 = iI ((c' + 1 : Nat) : Int) := b4
      obtain ⟨N1, q1, q2, q3, q4, q5⟩ := cst_56_55 (s := 82 * c') (o := 0) (by omega) (by omega) (upI (upI N 53 0 (iI 0)) 53 5 (iI (c' : Int)))
      have hR : ∀ x, x ≠ 53 → x ≠ 55 → N1.1 x = N.1 x := fun x h1 h2 => by rw [q4 x h2, upI_row_ne h1, upI_row_ne h1]
      have h53 : ∀ j, N1.1 53 j = if j = 5 then iI (c' : Int) else if j = 0 then iI 0 else N.1 53 j := fun j => by rw [q4 53 (by decide), upI_at, upI_at]
      refine ⟨N1, ?_, ⟨(b5 c' (show c' < c' + 1 by omega)).copy hpw (fun j hj => ?_), ?_, fun z => (b3 z).row (hR _ (by decide) (by decide)), ?_, fun i hi => (b5 i (show i < c' + 1 by have : i < c' := hi; omega)).row (hR _ (by decide) (by decide)), ?_, fun i hi => by rw [hR _ (by decide) (by decide)]; exact b7 i hi⟩, ⟨fun x hx => hR x (by omega) (by omega), by rw [q5]; rfl, by rw [q5]; rfl⟩, ?_⟩
      · unfold F_X4_undo
        rw [h5, iL_0, if_le (by omega) (by omega) (by omega) (by omega), if_neg (by omega), bnd_v]
        show obind2 (F_X4_refused (iI 0) N) _ = _
        rw [refused_0, ob2_s, if_pos (show (0 : Int32) = iI 0 from rfl), upI_at, if_neg (by decide), h5, iL_1, ek, show (82 : Int32) = iI 82 from rfl, iI_mul, show (82 : Int) * (c' : Int) = ((82 * c' : Nat) : Int) from rfl]
        refine Eq.trans (congrArg (fun x => obind x _) q1) ?_
        show some (N1.1 53 5, N1) = _
        rw [h53, if_pos rfl]
      · rw [q2 j hj, upI_row_ne (by decide), upI_row_ne (by decide)]
      · rw [h53, if_neg (by decide), if_neg (by decide)]; exact b2
      · rw [h53, if_pos rfl]
      · rw [h53, if_neg (by decide), if_neg (by decide)]; exact b6
      · rw [h53, if_neg (by decide), if_pos rfl]
theorem t_keep : TwoV F_X3_keep F_X4_keep := by
  rintro M ⟨⟨⟨n, w, k, z, L, P, G, lc, lb⟩, kp, kf, c, sv, tl, tc⟩, hW, hC, hM⟩
  have h : PkC 1 n w k z L P G lc lb M := hC.1
  have hw : PkW n w k z L P G lc lb := hW.1
  have hn := hw.n6
  obtain ⟨a1, a2, a3, a4, a5, a6, a7, a8⟩ := id hC
  have hc5 : c ≤ 5 := hW.2.2.1
  have ho : ∀ x, ¬ (7 ≤ x ∧ x ≤ 12) → (cpP M 1 7).1 x = M.1 x := fun x hx => cpP_out (fun j hj => by omega)
  have hU : ∀ x, x ≠ 0 → (upI (cpP M 1 7) 0 6 (1 : Int32)).1 x = (cpP M 1 7).1 x := fun x hx => upI_row_ne hx
  refine two_v (S' := ((n, w, k, z, L, P, G, lc, lb), (n, w, k, z, L, P, G, lc, lb), true, c, sv, tl, tc)) hM ⟨hW.1, fun _ => hW.1, hW.2.2⟩ (v := iI (n : Int)) (M1 := upI (cpP M 1 7) 0 6 (1 : Int32)) ?_ ⟨?_, ?_, fun z => ?_, ?_, fun i hi => ?_, a6, ?_, fun i hi => ?_⟩ (fun x hx => ?_) (fun N hN => ?_)
  · unfold F_X3_keep
    rw [ccopy_I a1 rfl rfl, ob_s, ho 1 (by omega), h.vn]
  · refine a1.cells fun j hj => ?_
    rw [hU _ (by omega), ho _ (by omega)]
  · rw [upI_at, if_pos rfl]; rfl
  · refine (pC_copy (a := 7) a1 hW.1 (fun i j hi hj => by omega)).cells fun j hj => ?_
    rw [hU _ (by omega)]
  · rw [upI_at, if_neg (by decide), ho 0 (by omega)]; exact a4
  · have hi' : i < c := hi
    have hsi := a6.1 i (by omega)
    refine (a5 i hi).cells fun j hj => ?_
    show (upI (cpP M 1 7) 0 6 (1 : Int32)).1 (M.2.2 i + j) = _
    rw [hU _ (by unfold isSv at hsi; omega), ho _ (by unfold isSv at hsi; omega)]
  · rw [hU _ (by omega), ho _ (by omega)]; exact a7
  · rw [hU _ (by omega), ho _ (by omega)]; exact a8 i hi
  · rw [hU _ (by omega), ho _ (by omega)]
  · obtain ⟨b1, b2, b3, b4, b5, b6, b7⟩ := id hN
    have hm : PkM 55 0 n w k z L P G lc lb N := b1
    obtain ⟨N1, q1, q2, q3, q4, q5⟩ := cst_55_57 (s := 0) (o := 0) (by omega) (by omega) (upI N 53 0 (0 : Int32))
    have hR : ∀ x, x ≠ 53 → x ≠ 57 → (upI N1 53 7 (1 : Int32)).1 x = N.1 x := fun x h1 h2 => by rw [upI_row_ne h1, q4 x h2, upI_row_ne h1]
    have h53 : ∀ j, (upI N1 53 7 (1 : Int32)).1 53 j = if j = 7 then (1 : Int32) else if j = 0 then (0 : Int32) else N.1 53 j := fun j => by rw [upI_at, q4 53 (by decide), upI_at]
    refine ⟨upI N1 53 7 (1 : Int32), ?_, ⟨b1.row (hR _ (by decide) (by decide)), by rw [h53, if_pos rfl]; rfl, fun z => b1.copy hW.1 (fun j hj => by rw [upI_row_ne (by decide), q2 j hj, upI_row_ne (by decide)]), by rw [h53, if_neg (by decide), if_neg (by decide)]; exact b4, fun i hi => (b5 i hi).row (hR _ (by decide) (by decide)), by rw [h53, if_neg (by decide), if_neg (by decide)]; exact b6, fun i hi => by rw [hR _ (by decide) (by decide)]; exact b7 i hi⟩, ⟨fun x hx => hR x (by omega) (by omega), by show N1.2.2 = _; rw [q5]; rfl, by show N1.2.1 62 = _; rw [q5]; rfl⟩⟩
    unfold F_X4_keep
    refine Eq.trans (congrArg (fun x => obind x _) q1) ?_
    show some (N1.1 55 0, upI N1 53 7 (1 : Int32)) = _
    rw [q4 55 (by decide), upI_of (by decide), hm.vn]
theorem t_restore : TwoX F_L_restore_0_62 F_X4_restore := by
  rintro M ⟨⟨⟨n, w, k, z, L, P, G, lc, lb⟩, kp, kf, c, sv, tl, tc⟩, hW, hC, hM⟩
  have h : PkC 1 n w k z L P G lc lb M := hC.1
  have hw : PkW n w k z L P G lc lb := hW.1
  have hn := hw.n6
  have h06 : M.1 0 6 = (if kf = true then iI 1 else iI 0) := hC.2.1
  by_cases e : kf = true
  · obtain ⟨M1, f1, f2, f3⟩ := csave_I hC hW
    obtain ⟨a1, a2, a3, a4, a5, a6, a7, a8⟩ := id f2
    have hW2 := hW.sav
    have hK : sK (savS ((n, w, k, z, L, P, G, lc, lb), kp, kf, c, sv, tl, tc)) = kp ∧ sF (savS ((n, w, k, z, L, P, G, lc, lb), kp, kf, c, sv, tl, tc)) = kf := by
      unfold savS
      split <;> exact ⟨rfl, rfl⟩
    rw [hK.1, hK.2] at a3
    have hp7 := a3 e
    have hpw : pW kp := hW.2.1 e
    have ho : ∀ x, ¬ (1 ≤ x ∧ x ≤ 6) → (cpP M1 7 1).1 x = M1.1 x := fun x hx => cpP_out (fun j hj => by omega)
    have hfr : frC1 M1 (cpP M1 7 1) := ⟨fun x hx => ho x (by omega), rfl⟩
    have hpn := pC_copy hp7 hpw (sv_sep1 (Or.inr rfl))
    refine two_ok (S' := setN (savS ((n, w, k, z, L, P, G, lc, lb), kp, kf, c, sv, tl, tc)) kp) hM (hW2.now hpw) (v := iI (kp.1 : Int)) (M1 := cpP M1 7 1) ?_ (f2.now hW2.2.2.1 hpn hfr) (f3.tr hfr.cl) (fun N hN => ?_)
    · unfold F_L_restore_0_62 F_X3_restore
      rw [h06, if_pos e, if_neg (by decide), f1, ob_s, ccopy_I hp7 rfl rfl, ob_s, obX_l, hpn.1]
      rfl
    · obtain ⟨N1, q1, q2, q3, q4⟩ := msave_I (hN.ref (v := iI 0)) hW
      have h57 := q2.2.2.1
      rw [hK.1, hK.2] at h57
      obtain ⟨N2, r1, r2, r3, r4, r5⟩ := cst_57_55 (s := 0) (o := 0) (by omega) (by omega) N1
      have h7 : N.1 53 7 = (if kf = true then iI 1 else iI 0) := hN.2.1
      have hpm : pM 55 0 kp N2 := (h57 e).copy hpw (fun j hj => r2 j hj)
      have hf : frM1 N1 N2 := ⟨r4, r5⟩
      refine ⟨N2, ?_, q2.now hpm hf, (mo_ref.tr q3).tr hf.mo, by rw [hf.1 53 (by decide), q4, upI_at, if_pos rfl]⟩
      unfold F_X4_restore
      rw [h7, if_pos e, if_neg (show ¬ iI 1 = (0 : Int32) by decide), bnd_v]
      show obind2 (F_X4_refused (iI 0) N) _ = _
      rw [refused_0, ob2_s, if_pos rfl, q1, ob_s]
      refine Eq.trans (congrArg (fun x => obind x _) r1) ?_
      show some (N2.1 55 0, N2) = _
      rw [show N2.1 55 0 = iI (kp.1 : Int) from hpm.1]
  · refine failX (j := 1) (by decide) (by decide) hC hM hW ?_ (fun N hN => ?_)
    · unfold F_L_restore_0_62 F_X3_restore
      rw [h06, if_neg e]
      rfl
    · have h7 : N.1 53 7 = (if kf = true then iI 1 else iI 0) := hN.2.1
      unfold F_X4_restore
      rw [h7, if_neg e]
      rfl

/-! ===== a text's first error; a text's work ===== -/
def setZ (s : Pst) (z : Int) : Pst := (s.1, s.2.1, s.2.2.1, z, s.2.2.2.2)
theorem pW.z {s : Pst} {z : Int} (h : pW s) (hz : -1 ≤ z ∧ z < 1000) : pW (setZ s z) := ⟨h.1, h.2.1, h.2.2.1, h.2.2.2.1, h.2.2.2.2.1, hz, h.2.2.2.2.2.2⟩
theorem pC.z {s : Pst} {z : Int} {M : Wd} {a b : Int32} (h : pC 1 s M) (ha : a = if z = -1 then iI 0 else iI 1) (hb : z ≠ -1 → b = iI z) : pC 1 (setZ s z) (upI (upI M 1 8 a) 1 9 b) := by
  obtain ⟨h1, h2, h3, h4, h5, h6, h7, h8, h9, h10⟩ := h
  have ho : ∀ i, i ≠ 8 → i ≠ 9 → (upI (upI M 1 8 a) 1 9 b).1 1 i = M.1 1 i := fun i i1 i2 => by rw [upI_at, if_neg i2, upI_at, if_neg i1]
  have hr : ∀ c, c ≠ 1 → (upI (upI M 1 8 a) 1 9 b).1 c = M.1 c := fun c hc => by rw [upI_row_ne hc, upI_row_ne hc]
  refine ⟨?_, ?_, ?_, ?_, fun q => ?_, fun i hi => ?_, fun i hi => ?_, fun i hi => ?_, fun i hi => ?_, fun i hi => ?_⟩
  · rw [ho 5 (by decide) (by decide)]; exact h1
  · rw [ho 6 (by decide) (by decide)]; exact h2
  · rw [ho 7 (by decide) (by decide)]; exact h3
  · rw [upI_at, if_neg (by decide), upI_at, if_pos rfl]; exact ha
  · rw [upI_at, if_pos rfl]; exact hb q
  · rw [hr _ (by decide)]; exact h6 i hi
  · rw [hr _ (by decide)]; exact h7 i hi
  · rw [hr _ (by decide)]; exact h8 i hi
  · rw [hr _ (by decide)]; exact h9 i hi
  · rw [hr _ (by decide)]; exact h10 i hi
theorem pM.z {s : Pst} {z : Int} {M : Wd} (h : pM 55 0 s M) (hW : pW s) : pM 55 0 (setZ s z) (upI M 55 81 (iI z)) := by
  obtain ⟨h1, h2, h3, h4, h5, h6, h7, h8⟩ := h
  have hn := PkW.n6 hW
  have hk := PkW.k60 hW
  have ho : ∀ i, i ≠ 81 → (upI M 55 81 (iI z)).1 55 i = M.1 55 i := fun i i1 => by rw [upI_at, if_neg i1]
  refine ⟨?_, ?_, ?_, ?_, fun i hi => ?_, fun i hi => ?_, fun i hi => ?_, fun i hi => ?_⟩
  · rw [ho _ (by decide)]; exact h1
  · rw [ho _ (by decide)]; exact h2
  · rw [ho _ (by decide)]; exact h3
  · exact (upI_at (j := 0 + 81)).trans (if_pos rfl)
  · have hi' : i < s.1 := hi
    rw [ho _ (by omega)]; exact h5 i hi
  · have hi' : i < s.1 := hi
    rw [ho _ (by omega)]; exact h6 i hi
  · have hi' : i < s.1 := hi
    rw [ho _ (by omega)]; exact h7 i hi
  · have hi' : i < s.2.2.1 := hi
    rw [ho _ (by omega)]; exact h8 i hi
theorem MI'.nowW {S : Wst} {M N : Wd} {s : Pst} (h : MI' S M) (h1 : pM 55 0 s N) (hf : frW M N) : MI' (setN S s) N := by
  obtain ⟨a1, a2, a3, a4, a5, a6, a7⟩ := h
  exact ⟨h1, by rw [hf.2.1 7 (by decide) (by decide) (by decide)]; exact a2, fun z => (a3 z).row (hf.1 57 (by omega)), by rw [hf.2.1 5 (by decide) (by decide) (by decide)]; exact a4, fun i hi => (a5 i hi).row (hf.1 56 (by omega)), by rw [hf.2.1 2 (by decide) (by decide) (by decide)]; exact a6, fun i hi => by rw [hf.1 54 (by omega)]; exact a7 i hi⟩
theorem savS_L {S : Wst} : sL (savS S) = sL S := by unfold savS; split <;> rfl
theorem savS_T {S : Wst} : sT (savS S) = sT S := by unfold savS; split <;> rfl
theorem MI'.tx {S : Wst} {M : Wd} (h : MI' S M) (hW : WI S) : Tx (sL S) (sT S) M := ⟨hW.2.2.2.2.1, hW.2.2.2.2.2, h.2.2.2.2.2.1, h.2.2.2.2.2.2⟩
theorem CI.tk {S : Wst} {M : Wd} (h : CI S M) (hW : WI S) : Tk (sL S) (sT S) M := ⟨hW.2.2.2.2.1, hW.2.2.2.2.2, h.2.2.2.2.2.2.1, h.2.2.2.2.2.2.2⟩
theorem frW.c55 {M : Wd} {k : Nat} {v : Int32} : frW M (upI M 55 k v) := ⟨fun c hc => upI_row_ne (by omega), fun j _ _ _ => by rw [upI_row_ne (by decide)], rfl⟩
/-- the start of a reading -/
def rdS (N : Wd) : Wd := upI (upI (upI N 53 15 (0 : Int32)) 53 20 (0 : Int32)) 53 19 (0 : Int32)
theorem rdS_W {N : Wd} : frW N (rdS N) := ((frW.up (by omega)).tr (frW.up (by omega))).tr (frW.up (by omega))
theorem rdS_55 {N : Wd} : (rdS N).1 55 = N.1 55 := rfl
theorem rdS_15 {N : Wd} : (rdS N).1 53 15 = iI ((0 : Nat) : Int) := rfl
theorem rdS_20 {N : Wd} : (rdS N).1 53 20 = iI ((0 : Nat) : Int) := rfl
theorem rdS_19 {N : Wd} : (rdS N).1 53 19 = iI 0 := rfl
section RD
variable {tl : Nat} {tc : Nat → Nat}
theorem reads0_I {N : Wd} {s : Pst} (h : pM 55 0 s N) (hW : pW s) (hx : Tx tl tc N) : ∃ N', F_X4_reads (0 : Int32) N = some (iI ((erA tl tc 0 0 : Nat) : Int), N') ∧ pM 55 0 s N' ∧ frW N N' ∧ (cplS (fiA tl tc 0 0) → N'.1 53 19 = iI 1) ∧ (¬ cplS (fiA tl tc 0 0) → N'.1 53 19 = iI 0) := by
  have h60 := hx.1
  obtain ⟨q, hq⟩ := fuelS (tl + 1) (by omega)
  have hx' : Tx tl tc (rdS N) := hx.frw rdS_W
  unfold F_X4_reads
  rw [hq, show q + 1 + (tl + 1) = q + 2 + tl by omega]
  rcases rd0_loop (tl := tl) (tc := tc) (a1 := (0 : Int32)) (Kx := fun M41 : Wd => some ((M41.1 53 15), M41)) (K := fun v44 M45 => bnd (if (0 : Int32) = 0 then (M45.1 55 81) else if v44 ≤ (M45.1 53 20) then (-1 : Int32) else (M45.1 53 20)) fun v46 => some ((M45.1 53 2), (upI (upI M45 53 19 (1 : Int32)) 55 81 v46))) tl tl 0 q 0 0 (rdS N) (Nat.le_refl _) (Nat.zero_add _) hx' rdS_15 rdS_20 with ⟨i1, i2, N', i3, i4, i5⟩ | ⟨i1, N', i3, i4, i5⟩
  · have hp : pM 55 0 s N' := (h.row (N := rdS N) rdS_55).row (i4.1 55 (by decide))
    have f1 : frW N (upI (upI N' 53 19 (1 : Int32)) 55 81 (N'.1 55 81)) := ((rdS_W.tr i4.W).tr (frW.up (by omega))).tr frW.c55
    refine ⟨upI (upI N' 53 19 (1 : Int32)) 55 81 (N'.1 55 81), ?_, hp.copy hW (fun j hj => ?_), f1, fun _ => by rw [upI_of (by decide), upI_at, if_pos rfl]; rfl, fun z => absurd i1 z⟩
    · refine Eq.trans i3 ?_
      show some ((N'.1 53 2), (upI (upI N' 53 19 (1 : Int32)) 55 81 (N'.1 55 81))) = _
      rw [(hx'.fru i4).2.2.1, i2]
    · rw [upI_at]
      by_cases e : 0 + j = 81
      · rw [if_pos e, e]
      · rw [if_neg e, upI_of (by decide)]
  · refine ⟨N', ?_, (h.row (N := rdS N) rdS_55).row (i4.1 55 (by decide)), rdS_W.tr i4.W, fun z => absurd z i1, fun _ => by rw [i4.2.1 19 (by omega) (by decide)]; exact rdS_19⟩
    refine Eq.trans i3 ?_
    show some ((N'.1 53 15), N') = _
    rw [i5]
end RD
theorem t_firstError : TwoV (fun M => obind (F_X3_firstError M) fun v => some (v, M)) F_X4_firstError := by
  rintro M ⟨S, hW, hC, hM⟩
  have hk := hC.tk hW
  refine two_v (FC := fun M => obind (F_X3_firstError M) fun v => some (v, M)) (FM := F_X4_firstError) (S' := S) hM hW (v := iI ((erA (sL S) (sT S) 0 0 : Nat) : Int)) (M1 := M) ?_ hC (frCl.rf M) (fun N hN => ?_)
  · show obind (F_X3_firstError M) _ = _
    unfold F_X3_firstError
    rw [errorAt_I hk.2.2.1 hk.2.2.2 hk.1 (fun i hi => by have := hk.2.1 i hi; omega), ob_s, ob_s]
  · have h0 : MI' S (upI N 53 0 (0 : Int32)) := hN.ref
    obtain ⟨N', n1, n2, n3, -, -⟩ := reads0_I h0.1 hW.1 (h0.tx hW)
    refine ⟨N', ?_, h0.nowW n2 n3, mo_ref.tr n3.mo⟩
    unfold F_X4_firstError
    rw [n1, ob2_s]
theorem t_work : TwoX F_L_work_0_62 F_X4_work := by
  rintro M ⟨S, hW, hC, hM⟩
  have hk := hC.tk hW
  have h60 := hk.1
  have hcm := complete_I hk.2.2.1 hk.2.2.2 hk.1 (fun i hi => by have := hk.2.1 i hi; omega)
  by_cases hc : cplS (fiA (sL S) (sT S) 0 0)
  · obtain ⟨q, hq⟩ := fuelS (sL S + 1) (by omega)
    have hq' : fuelN = q + 2 + sL S := by omega
    obtain ⟨d, s', d1, d2, d3, d4⟩ := wk_ex hk.1 hk.2.1 (sL S) (sL S) 0 (Nat.le_refl _) (Nat.zero_add _) hc (sN S) hW.1
    have hns : nsA (sL S) (sT S) 0 ≤ sL S := Nat.le_trans (nsc_le _ _) (Nat.sub_le _ _)
    obtain ⟨z, hz⟩ : ∃ z : Int, z = if d < 1 + nsA (sL S) (sT S) 0 then (d : Int) else -1 := ⟨_, rfl⟩
    have hz2 : -1 ≤ z ∧ z < 1000 := by rw [hz]; split <;> omega
    have hz3 : (if z = -1 then iI 0 else iI 1) = (if d < 1 + nsA (sL S) (sT S) 0 then iI 1 else iI 0) := by
      rw [hz]
      by_cases e : d < 1 + nsA (sL S) (sT S) 0
      · rw [if_pos e, if_pos e, if_neg (by omega)]
      · rw [if_neg e, if_neg e, if_pos rfl]
    have hW2 := hW.sav
    obtain ⟨M5, m1, m2, m3⟩ := csave_I hC hW
    have hk5 := m2.tk hW2
    rw [savS_L, savS_T] at hk5
    obtain ⟨M6, k1, k2, k3⟩ := d3 (fun v26 v27 M28 => chB v27 <| bnd (if v27 = 0 then (0 : Int32) else v26) fun v30 => obind2 (F_X2_clear (upI (upI M28 1 8 v27) 1 9 v30)) fun v33 M34 => some (Sum.inl (β := Nat) v26, M34)) M5 0 0 q (Nat.le_refl _) m2.svN hk5
    obtain ⟨a, ha⟩ : ∃ a : Int32, a = if d < 1 + nsA (sL S) (sT S) 0 then iI 1 else iI 0 := ⟨_, rfl⟩
    obtain ⟨b, hb⟩ : ∃ b : Int32, b = if a = 0 then (0 : Int32) else iI ((0 + d : Nat) : Int) := ⟨_, rfl⟩
    have hbz : z ≠ -1 → b = iI z := fun hn => by
      have e : d < 1 + nsA (sL S) (sT S) 0 := Classical.byContradiction fun e => hn (by rw [hz, if_neg e])
      rw [hb, ha, if_pos e, if_neg (by decide), hz, if_pos e, Nat.zero_add]
    have hp6 := pC.z (z := z) (a := a) (b := b) k2 (by rw [hz3, ha]) hbz
    have f6 : frZ M5 (upI (upI M6 1 8 a) 1 9 b) := k3.tr ⟨fun c hc => by rw [upI_row_ne (by omega), upI_row_ne (by omega)], rfl⟩
    have hC6 := m2.nowZ hW2.2.2.1 hp6 f6
    have hC7 := CI.txt (N := upI (upI (upI M6 1 8 a) 1 9 b) 51 1 (0 : Int32)) (tl := 0) (tc := sT S) hC6 hW2.2.2.1 (fun c hc => upI_row_ne (by omega)) rfl (by rw [upI_at, if_pos rfl]; rfl) (fun j hj => by omega)
    have hWz := hW2.now (pW.z d2 hz2)
    refine two_ok (S' := (setZ s' z, sK (savS S), sF (savS S), sC (savS S), sV (savS S), 0, sT S)) (M1 := upI (upI (upI M6 1 8 a) 1 9 b) 51 1 (0 : Int32)) (v := iI (d : Int)) hM ⟨hWz.1, hWz.2.1, hWz.2.2.1, hWz.2.2.2.1, Nat.zero_le _, fun j hj => absurd hj (Nat.not_lt_zero j)⟩ ?_ hC7 ((m3.tr f6.cl).tr (fun c hc => upI_row_ne (by omega))) (fun N hN => ?_)
    · have hch : ∀ {β : Type} (k : Option β), chB a k = k := fun k => by
        rw [ha]; split <;> rfl
      have hw : F_X3_work M = some (Sum.inl (iI (d : Int)), upI (upI (upI M6 1 8 a) 1 9 b) 51 1 (0 : Int32)) := by
        unfold F_X3_work
        rw [hcm.1 hc, ob_s, if_neg (by decide), m1, ob_s, hq']
        refine Eq.trans k1 ?_
        rw [← ha]
        show chB a (bnd (if a = 0 then (0 : Int32) else iI ((0 + d : Nat) : Int)) fun v30 => obind2 (F_X2_clear (upI (upI M6 1 8 a) 1 9 v30)) fun v33 M34 => some (Sum.inl (β := Nat) (iI ((0 + d : Nat) : Int)), M34)) = _
        rw [hch, bnd_v, ← hb]
        unfold F_X2_clear
        rw [bnd_v, ob2_s, Nat.zero_add]
      unfold F_L_work_0_62
      rw [hw, obX_l]
      rfl
    · obtain ⟨N1, n1, n2, n3, n4, -⟩ := reads0_I hN.1 hW.1 (hN.tx hW)
      have hN1 : MI' S N1 := hN.nowW n2 n3
      have hN2 : MI' S (upI N1 53 0 (iI 0)) := hN1.ref
      obtain ⟨N3, r1, r2, r3, r4⟩ := msave_I hN2 hW
      have hx3 := r2.tx hW2
      rw [savS_L, savS_T] at hx3
      obtain ⟨N4, u1, u2, u3, u4⟩ := d4 (1 : Int32) (fun M41 : Wd => some ((M41.1 53 15), M41)) (fun v44 M45 => bnd (if (1 : Int32) = 0 then (M45.1 55 81) else if v44 ≤ (M45.1 53 20) then (-1 : Int32) else (M45.1 53 20)) fun v46 => some ((M45.1 53 2), (upI (upI M45 53 19 (1 : Int32)) 55 81 v46))) (rdS N3) 0 0 q (r2.svN.row rdS_55) (hx3.frw rdS_W) rdS_15 rdS_20
      have hv : (if iI ((0 + (1 + nsA (sL S) (sT S) 0) : Nat) : Int) ≤ (N4.1 53 20) then (-1 : Int32) else (N4.1 53 20)) = iI z := by
        rw [u4, Nat.zero_add, Nat.zero_add, if_le (by omega) (by omega) (by omega) (by omega), hz]
        by_cases e : d < 1 + nsA (sL S) (sT S) 0
        · rw [if_neg (by omega), if_pos e]
        · rw [if_pos (by omega), if_neg e]; rfl
      have hrd : F_X4_reads (1 : Int32) N3 = some (N4.1 53 2, upI (upI N4 53 19 (1 : Int32)) 55 81 (iI z)) := by
        unfold F_X4_reads
        rw [hq']
        refine Eq.trans u1 ?_
        show some ((N4.1 53 2), (upI (upI N4 53 19 (1 : Int32)) 55 81 (if iI ((0 + (1 + nsA (sL S) (sT S) 0) : Nat) : Int) ≤ (N4.1 53 20) then (-1 : Int32) else (N4.1 53 20)))) = _
        rw [hv]
      have f5 : frW N3 (upI (upI N4 53 19 (1 : Int32)) 55 81 (iI z)) := ((rdS_W.tr u3).tr (frW.up (by omega))).tr frW.c55
      have hM5 := r2.nowW (pM.z (z := z) (u2.row (N := upI N4 53 19 (1 : Int32)) (upI_row_ne (by decide))) d2) f5
      refine ⟨upI (upI (upI N4 53 19 (1 : Int32)) 55 81 (iI z)) 53 2 (0 : Int32), ?_, MI'.txt (tl := 0) (tc := sT S) hM5 (fun c c1 c2 => upI_row_ne (by omega)) (fun j hj => by rw [upI_at, if_neg (by omega)]) (by rw [upI_at, if_pos rfl]; rfl) (fun j hj => by omega), (((n3.mo.tr mo_ref).tr r3).tr f5.mo).tr ⟨fun c hc => upI_row_ne (by omega), rfl, rfl⟩, ?_⟩
      · unfold F_X4_work
        rw [n1, ob2_s, n4 hc, if_neg (show ¬ iI 1 = (0 : Int32) by decide), bnd_v, show F_X4_refused (0 : Int32) N1 = some ((0 : Int32), upI N1 53 0 (iI 0)) from refused_0, ob2_s, if_pos rfl, r1, ob_s, hrd, ob2_s, upI_of (by decide), upI_at, if_neg (by decide), u4, Nat.zero_add]
      · rw [upI_at, if_neg (by decide), f5.2.1 0 (by decide) (by decide) (by omega), r4, upI_at, if_pos rfl]
  · refine two_ex (k := iI ((1 : Nat) : Int)) hM hW (by decide) (M1 := M) ?_ hC (frCl.rf M) (fun N hN => ?_)
    · unfold F_L_work_0_62 F_X3_work
      rw [hcm.2 hc, ob_s, if_pos rfl]
      rfl
    · obtain ⟨N1, n1, n2, n3, -, n5⟩ := reads0_I hN.1 hW.1 (hN.tx hW)
      have hN1 : MI' S N1 := hN.nowW n2 n3
      refine ⟨0, upI N1 53 0 (iI ((1 : Nat) : Int)), ?_, hN1.ref, n3.mo.tr mo_ref, by rw [upI_at, if_pos rfl]⟩
      unfold F_X4_work
      rw [n1, ob2_s, n5 hc, if_pos (show iI 0 = (0 : Int32) from rfl), bnd_v, show (1 : Int32) = iI ((1 : Nat) : Int) from rfl, refused_k (by decide) (by decide), ob2_s, if_neg (show ¬ (1 : Int32) = 0 by decide)]

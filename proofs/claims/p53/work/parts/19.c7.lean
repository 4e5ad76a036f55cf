/-! ===== the law's loop, whole ===== -/
theorem and31 (v : Int32) : ∃ c : Nat, c < 2147483648 ∧ v &&& (2147483647 : Int32) = iI (c : Int) := by
  refine ⟨(v &&& (2147483647 : Int32)).toBitVec.toNat, ?_, ?_⟩
  · rw [Int32.toBitVec_and, BitVec.toNat_and]
    exact Nat.lt_of_le_of_lt Nat.and_le_right (show ((2147483647 : Int32).toBitVec.toNat) < 2147483648 by decide)
  · rw [iI_nI]
    refine Int32.toBitVec_inj.mp ?_
    show _ = BitVec.ofNat 32 _
    rw [BitVec.ofNat_toNat, BitVec.setWidth_eq]
theorem cell_ok {xs : Nat → Int32} {nL : Nat} (hL : nL ≤ 260) {k : Nat} (hk : k < 1000) : ∃ c : Nat, c < 2147483648 ∧ F_L_cell xs nL (iI (k : Int)) = some (iI (c : Int)) := by
  unfold F_L_cell
  rw [show Int32.ofNat nL = iI (nL : Int) from (iI_nI nL).symm, if_le (by omega) (by omega) (by omega) (by omega)]
  by_cases e : nL ≤ k
  · rw [if_pos (by omega)]
    obtain ⟨c, c1, c2⟩ := and31 (((15520601 : Int32) * (iI (k : Int) + (3 : Int32))) + (12653 : Int32))
    exact ⟨c, c1, by rw [c2]⟩
  · rw [if_neg (by omega), ldi_N (by omega) (by omega)]
    obtain ⟨c, c1, c2⟩ := and31 (xs k)
    exact ⟨c, c1, by rw [c2]⟩
theorem cmp_self (x : Int64) : lg_cmp x x = 0 := by
  unfold lg_cmp
  simp
section LO
variable {S : Wst}
theorem ob2_ok2 {β : Type} {X : Option (Int32 × Wd2)} {g : Int32 → Wd2 → Option β} {R : Option β} (h : OK2 S X) (k : ∀ M' : Wd2, CI S M'.1 → CI S M'.2 → g 1 M' = R) : obind2 X g = R := by
  obtain ⟨M', m1, m2, m3⟩ := h
  rw [m1]
  exact k M' m2 m3
theorem ok2_x {F : Option (Int32 × Wd)} {S1 : Wst} {g : Int32 → Wd → Option (Int32 × Wd2)} (h : OK S1 F) (k : ∀ M', CI S1 M' → OK2 S (g 1 M')) : OK2 S (obind2 F g) := by
  obtain ⟨M', m1, m2⟩ := h
  exact ok2_b m1 (k M' m2)
theorem law_loop {xs : Nat → Int32} {nL t : Nat} (hL260 : nL ≤ 260) (ht : t ≤ 32) {β : Type} {R : β} {K : Int32 → Wd2 → Option β} (hK : ∀ M, K 1 M = some R) (r : Nat) : ∀ (q k : Nat) (S : Wst) (M : Wd2), k + r = t → WI S → LW S → CI S M.1 → CI S M.2 → F_L_law_L34 xs nL (iI (t : Int)) K (q + 1 + r) 1 (iI (k : Int)) M = some R := by
  induction r with
  | zero =>
    intro q k S M hr hW hL h1 h2
    show (if iI (t : Int) ≤ iI (k : Int) then K 1 M else _) = _
    rw [if_le (by omega) (by omega) (by omega) (by omega), if_pos (by omega)]
    exact hK M
  | succ r ih =>
    intro q k S M hr hW hL h1 h2
    rw [show q + 1 + (r + 1) = (q + 1 + r) + 1 from rfl, F_L_law_L34]
    obtain ⟨c, hc, ec⟩ := cell_ok (xs := xs) hL260 (k := 1 + k) (by omega)
    obtain ⟨v, S1, hW1, hL1, d1⟩ := act_ex hW hL hc
    obtain ⟨dg, d2⟩ := dig_d hW1
    obtain ⟨M7, a1, a2⟩ := d1 M.1 h1
    obtain ⟨M11, b1, b2⟩ := refuses_ok hW hL (x := c % 100000) (by omega) h2
    have hc7 : c / 7 < 2147483648 := by omega
    have hcell : F_L_cell xs nL ((1 : Int32) + iI (k : Int)) = some (iI (c : Int)) := by
      rw [show (1 : Int32) = iI ((1 : Nat) : Int) from rfl, iI_add]
      exact ec
    rw [if_le (by omega) (by omega) (by omega) (by omega), if_neg (by omega), if_neg (show ¬ (1 : Int32) = 0 by decide), hcell, ob_s, a1, ob2_s, rem_100000 hc, b1, ob2_s, rem_1000 hc, div_7 hc, rem_2 (show k < 2147483648 by omega), rem_4 (show k < 2147483648 by omega)]
    by_cases e4 : 0 < k % 4
    · have h4 : (0 : Int32) < iI ((k % 4 : Nat) : Int) := by rw [iL_0, iI_lt (by omega) (by omega) (by omega) (by omega)]; omega
      obtain ⟨S2, hW2, hL2, d3⟩ := slides_ok hW1 hL1 hc7
      refine ob2_ok2 (S := S2) ?_ (fun M' g1 g2 => ?_)
      · refine ok2_n (by decide) ?_
        refine ok2_d d1 b2 (fun M18 k2 => ?_)
        refine ok2_p rfl ?_
        refine ok2_x (refuses_ok hW1 hL1 (x := c % 1000) (by omega) k2) (fun M23 k2 => ?_)
        refine ok2_n (by decide) ?_
        refine ok2_o (alike_ok hW1 (M := (M7, M23)) a2 k2) (fun M28 k1 k2 => ?_)
        refine ok2_n (by decide) ?_
        by_cases e2 : k % 2 = 0
        · refine ok2_p (by rw [e2]; rfl) ?_
          refine ok2_x (holds_ok hW1 hL1 k1) (fun M69 k1 => ?_)
          refine ok2_n (by decide) ?_
          refine ok2_p h4 ?_
          refine ok2_o (d3 (M69, M28.2) k1 k2) (fun M75 g1 g2 => ?_)
          exact ok2_n (by decide) (ok2_1 g1 g2)
        · refine ok2_n (nz (by omega) (by omega) (by omega)) ?_
          refine ok2_x (holds_ok hW1 hL1 k2) (fun M69 k2 => ?_)
          refine ok2_n (by decide) ?_
          refine ok2_p h4 ?_
          refine ok2_o (d3 (M28.1, M69) k1 k2) (fun M75 g1 g2 => ?_)
          exact ok2_n (by decide) (ok2_1 g1 g2)
      · rw [s1_I, bnd_v]
        exact ih q (k + 1) S2 M' (by omega) hW2 hL2 g1 g2
    · have h4 : ¬ (0 : Int32) < iI ((k % 4 : Nat) : Int) := by rw [iL_0, iI_lt (by omega) (by omega) (by omega) (by omega)]; omega
      obtain ⟨S3, hW3, hL3, d4⟩ := drives_ok hW1 hL1
      obtain ⟨S2, hW2, hL2, d3⟩ := slides_ok hW3 hL3 hc7
      refine ob2_ok2 (S := S2) ?_ (fun M' g1 g2 => ?_)
      · refine ok2_n (by decide) ?_
        refine ok2_d d1 b2 (fun M18 k2 => ?_)
        refine ok2_p rfl ?_
        refine ok2_x (refuses_ok hW1 hL1 (x := c % 1000) (by omega) k2) (fun M23 k2 => ?_)
        refine ok2_n (by decide) ?_
        refine ok2_o (alike_ok hW1 (M := (M7, M23)) a2 k2) (fun M28 k1 k2 => ?_)
        refine ok2_n (by decide) ?_
        by_cases e2 : k % 2 = 0
        · refine ok2_p (by rw [e2]; rfl) ?_
          refine ok2_x (holds_ok hW1 hL1 k1) (fun M69 k1 => ?_)
          refine ok2_n (by decide) ?_
          refine ok2_n h4 ?_
          refine ok2_x (plans_ok hW1 k1) (fun M80 k1 => ?_)
          refine ok2_n (by decide) ?_
          refine ok2_d d2 k1 (fun M85 k1 => ?_)
          refine ok2_d d2 k2 (fun M89 k2 => ?_)
          refine ok2_p (cmp_self dg) ?_
          refine ok2_o (d4 (M85, M89) k1 k2) (fun M94 k1 k2 => ?_)
          refine ok2_n (by decide) ?_
          refine ok2_o (d3 M94 k1 k2) (fun M75 g1 g2 => ?_)
          exact ok2_n (by decide) (ok2_1 g1 g2)
        · refine ok2_n (nz (by omega) (by omega) (by omega)) ?_
          refine ok2_x (holds_ok hW1 hL1 k2) (fun M69 k2 => ?_)
          refine ok2_n (by decide) ?_
          refine ok2_n h4 ?_
          refine ok2_x (plans_ok hW1 k1) (fun M80 k1 => ?_)
          refine ok2_n (by decide) ?_
          refine ok2_d d2 k1 (fun M85 k1 => ?_)
          refine ok2_d d2 k2 (fun M89 k2 => ?_)
          refine ok2_p (cmp_self dg) ?_
          refine ok2_o (d4 (M85, M89) k1 k2) (fun M94 k1 k2 => ?_)
          refine ok2_n (by decide) ?_
          refine ok2_o (d3 M94 k1 k2) (fun M75 g1 g2 => ?_)
          exact ok2_n (by decide) (ok2_1 g1 g2)
      · rw [s1_I, bnd_v]
        exact ih q (k + 1) S2 M' (by omega) hW2 hL2 g1 g2
end LO

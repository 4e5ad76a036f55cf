/-! ===== two parks alike; what holds in each ===== -/
def OK2 (S : Wst) (r : Option (Int32 × Wd2)) : Prop := ∃ M', r = some ((1 : Int32), M') ∧ CI S M'.1 ∧ CI S M'.2
section AL
variable {S : Wst}
theorem ok2_1 {M : Wd2} (h1 : CI S M.1) (h2 : CI S M.2) : OK2 S (some ((1 : Int32), M)) := ⟨M, rfl, h1, h2⟩
theorem alike_L63 (hW : WI S) {K : Int32 → Wd2 → Option (Int32 × Wd2)} (hK : ∀ M : Wd2, CI S M.1 → CI S M.2 → OK2 S (K 1 M)) : ∀ (r q i : Nat) (M : Wd2), i + r = 25 → CI S M.1 → CI S M.2 → OK2 S (F_L_alike_L63 K (q + 1 + r) 1 (iI (i : Int)) M)
  | 0, q, i, M, hr, h1, h2 => by
    show OK2 S (if (25 : Int32) ≤ iI (i : Int) then K 1 M else _)
    rw [show (25 : Int32) = iI 25 from rfl, if_le (by omega) (by omega) (by omega) (by omega), if_pos (by omega)]
    exact hK M h1 h2
  | r + 1, q, i, M, hr, h1, h2 => by
    have hi : i < 25 := by omega
    rw [show q + 1 + (r + 1) = (q + 1 + r) + 1 from rfl, F_L_alike_L63]
    rw [show (25 : Int32) = iI 25 from rfl, if_le (by omega) (by omega) (by omega) (by omega), if_neg (by omega), if_neg (show ¬ (1 : Int32) = 0 by decide), cnn_13, toN h1 hW hi, ob_s, ob2_s, cnn_13, toN h2 hW hi, ob_s, ob2_s, if_pos rfl, iwN h1 hW hi, ob_s, iwN h2 hW hi, ob_s, if_pos rfl, ob_s, s1_I, bnd_v]
    exact alike_L63 hW hK r q (i + 1) (M.1, M.2) (by omega) h1 h2
theorem alike_L121 (hW : WI S) {K : Int32 → Wd2 → Option (Int32 × Wd2)} (hK : ∀ M : Wd2, CI S M.1 → CI S M.2 → OK2 S (K 1 M)) : ∀ (r i : Nat) (M : Wd2), i + r = 6 → CI S M.1 → CI S M.2 → OK2 S (F_L_alike_L121 K (r + 1) 1 (iI (i : Int)) M)
  | 0, i, M, hr, h1, h2 => by
    rw [F_L_alike_L121]
    rw [show (6 : Int32) = iI 6 from rfl, if_le (by omega) (by omega) (by omega) (by omega), if_pos (by omega)]
    exact hK M h1 h2
  | r + 1, i, M, hr, h1, h2 => by
    have hi : i < 6 := by omega
    rw [F_L_alike_L121]
    rw [show (6 : Int32) = iI 6 from rfl, if_le (by omega) (by omega) (by omega) (by omega), if_neg (by omega), if_neg (show ¬ (1 : Int32) = 0 by decide), cn_10, cn_10]
    by_cases e : i < xn S
    · rw [tl_y h1 hW e, ob2_s, tl_y h2 hW e, ob2_s, if_pos rfl, cn_11, cn_11, tp_y h1 hW e, ob2_s, tp_y h2 hW e, ob2_s, if_pos rfl, cn_12, cn_12, tg_y h1 hW e, ob2_s, tg_y h2 hW e, ob2_s, if_pos rfl, cn_16, cn_16, ts_y h1 hW e, ob2_s, ts_y h2 hW e, ob2_s, if_pos rfl, ob2_s, s1_I, bnd_v]
      exact alike_L121 hW hK r (i + 1) (M.1, M.2) (by omega) h1 h2
    · rw [tl_n h1 hW (by omega) (by omega) (by omega), ob2_s, tl_n h2 hW (by omega) (by omega) (by omega), ob2_s, if_pos rfl, cn_11, cn_11, tp_n h1 hW (by omega) (by omega) (by omega), ob2_s, tp_n h2 hW (by omega) (by omega) (by omega), ob2_s, if_pos rfl, cn_12, cn_12, tg_n h1 hW (by omega) (by omega) (by omega), ob2_s, tg_n h2 hW (by omega) (by omega) (by omega), ob2_s, if_pos rfl, cn_16, cn_16, ts_n h1 hW (by omega) (by omega) (by omega), ob2_s, ts_n h2 hW (by omega) (by omega) (by omega), ob2_s, if_pos rfl, ob2_s, s1_I, bnd_v]
      exact alike_L121 hW hK r (i + 1) (M.1, M.2) (by omega) h1 h2
theorem alike_ok (hW : WI S) {M : Wd2} (h1 : CI S M.1) (h2 : CI S M.2) : OK2 S (F_L_alike M) := by
  obtain ⟨q, hq⟩ := fuelS 25 (by decide)
  unfold F_L_alike
  rw [lk_cars h1, lk_cars h2, if_pos rfl, lk_walls h1 hW, lk_walls h2 hW, if_pos rfl, lk_logged h1, lk_logged h2, if_pos rfl, lk_saved h1, lk_saved h2, if_pos rfl, lk_fuel h1 hW, ob_s, lk_fuel h2 hW, ob_s, if_pos rfl, ob_s, hq]
  refine alike_L63 hW (fun M h1 h2 => ?_) 25 q 0 M rfl h1 h2
  exact alike_L121 hW (fun M h1 h2 => ok2_1 h1 h2) 6 0 M rfl h1 h2
/-! what holds in each park -/
theorem abs_if {b : Int} (h1 : -3 ≤ b) (h2 : b ≤ 3) : (if (0 : Int32) ≤ iI b then iI b else -iI b) = iI ((b.natAbs : Nat) : Int) := by
  rw [iL_0, if_le (by omega) (by omega) (by omega) (by omega), iI_neg]
  by_cases e : 0 ≤ b
  · rw [if_pos e]; congr 1; omega
  · rw [if_neg e]; congr 1; omega
theorem holds_L98 (hW : WI S) {a1 a2 a3 a4 a5 a7 a8 a9 : Int32} {c : Nat} (hc : c < 100) {K : Int32 → Wd → Option (Int32 × Wd)} : ∀ (r q j : Nat) (M : Wd), j + r = xk S → CI S M →
    F_L_holds_L98 a1 a2 a3 a4 a5 (iI (c : Int)) a7 a8 a9 K (q + 1 + r) (iI ((stps (xc S) (xb S) j c : Nat) : Int)) (iI (j : Int)) M = K (iI ((stps (xc S) (xb S) (xk S) c : Nat) : Int)) M
  | 0, q, j, M, hr, h => by
    have hk := hW.pk.k60
    show (if F_X3_logged M ≤ iI (j : Int) then K (iI ((stps (xc S) (xb S) j c : Nat) : Int)) M else _) = _
    rw [lk_logged h, if_le (by omega) (by omega) (by omega) (by omega), if_pos (by omega), show j = xk S by omega]
  | r + 1, q, j, M, hr, h => by
    have hk := hW.pk.k60
    have hj : j < xk S := by omega
    have hlg := hW.pk.lg hj
    have hn := hW.pk.n6
    rw [show q + 1 + (r + 1) = (q + 1 + r) + 1 from rfl, F_L_holds_L98]
    rw [lk_logged h, if_le (by omega) (by omega) (by omega) (by omega), if_neg (by omega), cnn_15, tbN h hW hj, ob_s, ob2_s, cnn_14, tcN h hW hj, ob_s, ob2_s, abs_if hlg.2.1 hlg.2.2]
    have e : (if iI (xc S j : Int) = iI (c : Int) then iI (((xb S j).natAbs : Nat) : Int) else (0 : Int32)) = iI ((stp1 (xc S) (xb S) c j : Nat) : Int) := by
      rw [if_eq (by omega) (by omega) (by omega) (by omega)]
      unfold stp1
      by_cases e : xc S j = c
      · rw [if_pos (by omega), if_pos e]
      · rw [if_neg (by omega), if_neg e]; rfl
    rw [e, bnd_v, iI_add, bnd_v, s1_I, bnd_v]
    exact holds_L98 hW hc r q (j + 1) M (by omega) h
theorem holds_L165 (hW : WI S) {a1 a2 a3 a4 a10 : Int32} {c : Nat} (hc : c < xn S) {K : Int32 → Wd → Option (Int32 × Wd)} : ∀ (r q i : Nat) (M : Wd), i + r = xG S c → CI S M →
    F_L_holds_L165 a1 a2 a3 a4 (iI (c : Int)) (iI (xL S c : Int)) (iI (xP S c : Int)) (iI (xG S c : Int)) a10 K (q + 1 + r) 1 (iI (i : Int)) M = K 1 M
  | 0, q, i, M, hr, h => by
    have hg := hW.pk.2.2.1 c hc
    show (if iI (xG S c : Int) ≤ iI (i : Int) then K 1 M else _) = _
    rw [if_le (by omega) (by omega) (by omega) (by omega), if_pos (by omega)]
  | r + 1, q, i, M, hr, h => by
    have hg := hW.pk.2.2.1 c hc
    have h5 := hW.pk.in5 hc
    have hn := hW.pk.n6
    rw [show q + 1 + (r + 1) = (q + 1 + r) + 1 from rfl, F_L_holds_L165]
    have hx := cix_lt_f (xL S c) hg.1 (xP S c + i) (by omega)
    have e : (if (5 : Int32) ≤ iI (xL S c : Int) then ((((5 : Int32) * (iI (xP S c : Int) + iI (i : Int))) + iI (xL S c : Int)) - (5 : Int32)) else ((((5 : Int32) * iI (xL S c : Int)) + iI (xP S c : Int)) + iI (i : Int))) = iI ((cix (xL S c) (xP S c + i) : Nat) : Int) := by
      rw [show (5 : Int32) = iI 5 from rfl, if_le (by omega) (by omega) (by omega) (by omega), iI_add, iI_mul, iI_add, iI_sub, iI_mul, iI_add, iI_add]
      unfold cix
      by_cases e : xL S c < 5
      · rw [if_neg (by omega), if_pos e]; congr 1; omega
      · rw [if_pos (by omega), if_neg e]; congr 1; omega
    rw [if_le (by omega) (by omega) (by omega) (by omega), if_neg (by omega), if_neg (show ¬ (1 : Int32) = 0 by decide), e, bnd_v, cnn_13, toN h hW hx, fcar_own hW.pk hc (show i < xG S c by omega), ob_s, ob2_s, if_pos rfl, bnd_v, s1_I, bnd_v]
    exact holds_L165 hW hc r q (i + 1) M (by omega) h
end AL

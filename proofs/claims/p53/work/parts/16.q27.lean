/-! ===== the next slide; what would be; driving out ===== -/
section PL
variable {n w k : Nat} {z : Int} {L P G lc : Nat → Nat} {lb : Nat → Int}
theorem Aend_lo {S : SS} (h : SrE w L G n S) {a : Nat} : -1 ≤ S.1 a := by
  obtain ⟨d, hI⟩ := h
  exact hI.1.lo a
theorem Aend_hi {S : SS} (h : SrE w L G n S) (hB : CB S) (hn : n ≤ 6) {a : Nat} : S.1 a ≤ 100000 := by
  obtain ⟨d, hI⟩ := h
  exact cb_le hB hI.1 (fun b hb => hb.1) hn a
/-- the class asks for the next slide -/
theorem cnext_I {M : Wd} (h : PkC 1 n w k z L P G lc lb M) (hW : PkW n w k z L P G lc lb) {S0 : SS} (hS0 : SrE w L G n S0) :
    (0 < S0.1 (enc P n) → ∀ x, NX1 w L G n S0.1 (enc P n) x → ∃ M', F_X3_hasNextSlide M = some (1, M') ∧ M'.1 44 10 = iI ((x / 7 : Nat) : Int) ∧ M'.1 44 11 = iI (((x % 7 : Nat) : Int) - 3) ∧ frX M M') ∧
    (¬ 0 < S0.1 (enc P n) → ∃ M', F_X3_hasNextSlide M = some (0, M') ∧ frX M M') := by
  obtain ⟨M1, f1, f2, f3, f4⟩ := explore_I h hW
  obtain ⟨M2, S, g1, g2, g3, g4, g5, g6, g7⟩ := cends_I f2 f3 hW.vv
  have e := (g4.eq hS0).1
  unfold F_X3_hasNextSlide
  constructor
  · intro hp x hx
    rw [← e] at hp hx
    refine ⟨upI (upI M2 44 10 (iI ((x / 7 : Nat) : Int))) 44 11 (iI (((x % 7 : Nat) : Int) - 3)), ?_, ?_, ?_, (f4.tr g7).tr (N := M2) ⟨fun c hc => ?_, ?_⟩⟩
    · rw [f1, ob_s, g1, ob2_s, g6, cnext_y g5 g2 g4 g3 hW.vv hp hx, ob2_s]
    · rw [upI_at, if_neg (by decide), upI_at, if_pos rfl]
    · rw [upI_at, if_pos rfl]
    · rw [upI_row_ne (by omega), upI_row_ne (by omega)]
    · rfl
  · intro hp
    rw [← e] at hp
    refine ⟨M2, ?_, f4.tr g7⟩
    rw [f1, ob_s, g1, ob2_s, g6, cnext_n g5 g2 g4 hW.vv hp, ob2_s]
end PL
theorem d8_I {x : Nat} (hx : x < 1000) : iI (8 * ((x / 7 : Nat) : Int) + (((x % 7 : Nat) : Int) - 3) + 3) / (8 : Int32) = iI ((x / 7 : Nat) : Int) ∧ (iI (8 * ((x / 7 : Nat) : Int) + (((x % 7 : Nat) : Int) - 3) + 3) - iI (8 * ((x / 7 : Nat) : Int) + (((x % 7 : Nat) : Int) - 3) + 3) / (8 : Int32) * (8 : Int32)) - (3 : Int32) = iI (((x % 7 : Nat) : Int) - 3) := by
  obtain ⟨y, hy⟩ : ∃ y : Nat, 8 * ((x / 7 : Nat) : Int) + (((x % 7 : Nat) : Int) - 3) + 3 = y := ⟨8 * (x / 7) + x % 7, by omega⟩
  rw [hy, show (8 : Int32) = iI ((8 : Nat) : Int) from rfl, iI_div _ _ (by omega) (by decide) (by decide), show (3 : Int32) = iI 3 from rfl, iI_mul, iI_sub, iI_sub, show y / 8 = x / 7 by omega]
  refine ⟨rfl, ?_⟩
  congr 1
  omega
theorem EL.st {w n : Nat} {L G : Nat → Nat} {M : Wd} {v : Int32} (h : EL w n L G M) : EL w n L G (upI M 44 8 v) := by
  obtain ⟨h0, h1, h2, h3, h4⟩ := h
  exact ⟨h0, by rw [upI_at, if_neg (by decide)]; exact h1, by rw [upI_at, if_neg (by decide)]; exact h2, fun i hi => by rw [upI_of (by decide)]; exact h3 i hi, fun a ha => by rw [upI_of (by decide)]; exact h4 a ha⟩
theorem okb_w {w x n : Nat} {L G P : Nat → Nat} (h : okb w L G P n = true) (hx : (ocm w L G P n).testBit x = false) : okb (w ||| 2 ^ x) L G P n = true := by
  have hok := okb_iff.mp h
  refine okb_iff.mpr ⟨hok.1, fun i hi y hy => ?_, hok.2.2⟩
  obtain ⟨y1, y2⟩ := hy
  rw [fb_bit_set, Bool.or_eq_true, decide_eq_true_eq] at y1
  rcases y1 with y1 | rfl
  · exact hok.2.1 i hi y ⟨y1, y2⟩
  · have := (ocm_bit (w := w) (L := L) (G := G) (p := P) (x := y) (n := n)).mpr (Or.inr ⟨i, hi, y2⟩)
    rw [this] at hx; cases hx

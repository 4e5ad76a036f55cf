/-! ===== doubles: shares and their bits ===== -/
theorem nanv {x : UInt64} (h : FP.Core.val64 x ≠ .nan) : x &&& 0x7fffffffffffffff ≤ 0x7ff0000000000000 := by
  have h1 := (FP.Core.ne_nan x).mp h
  rw [UInt64.le_iff_toNat_le, UInt64.toNat_and, show (0x7fffffffffffffff : UInt64).toNat = 2 ^ 63 - 1 from rfl, Nat.and_two_pow_sub_one_eq_mod]
  exact h1
def bD (E T : Nat) : UInt64 := UInt64.ofNat (E * 2 ^ 52 + T)
section BDD
variable {E T : Nat}
theorem bD_nat (hE : E ≤ 2046) (hT : T < 2 ^ 52) : (bD E T).toNat = E * 2 ^ 52 + T := by
  unfold bD
  rw [UInt64.toNat_ofNat']
  exact Nat.mod_eq_of_lt (by omega)
theorem bD_val (h1 : 1 ≤ E) (hE : E ≤ 2046) (hT : T < 2 ^ 52) : FP.Core.val64 (bD E T) = .fin false (2 ^ 52 + T) ((E : Int) - 1075) := by
  unfold FP.Core.val64
  have e : E * 2 ^ 52 + T = FP.Core.assemble FP.Core.b64 false E T := by
    show E * 2 ^ 52 + T = (0 * _ + E) * 2 ^ 52 + T
    rw [Nat.zero_mul, Nat.zero_add]
  have e2 : FP.Core.b64.exps - 1 = 2047 := FP.Core.exps_b64
  rw [bD_nat hE hT, e, FP.Core.decode_assemble _ _ _ _ (by omega) (by rw [FP.Core.tails_b64]; exact hT), if_neg (by omega), if_neg (by omega), FP.Core.tails_b64, FP.Core.qmin_b64, show (-1074 : Int) + ((E : Int) - 1) = (E : Int) - 1075 by omega]
theorem bD_nn (h1 : 1 ≤ E) (hE : E ≤ 2046) (hT : T < 2 ^ 52) : FP.Core.val64 (bD E T) ≠ .nan := by
  rw [bD_val h1 hE hT]; exact fun z => by cases z
theorem v_two : FP.Core.val64 (4611686018427387904 : UInt64) = .fin false (2 ^ 52) (-51) := by decide +kernel
theorem v_p52 : FP.Core.val64 (4841369599423283200 : UInt64) = .fin false (2 ^ 52) 0 := by decide +kernel
theorem qmax_b64 : FP.Core.b64.qmax = 971 := by decide
theorem two53 : (2 : Nat) ^ FP.Core.b64.p = 2 * 2 ^ 52 := by decide
theorem bD_dbl (h1 : 1 ≤ E) (hE : E ≤ 2045) (hT : T < 2 ^ 52) : FP.Core.dmul (bD E T) (4611686018427387904 : UInt64) = bD (E + 1) T := by
  have e : FP.Core.val64 (FP.Core.dmul (bD E T) (4611686018427387904 : UInt64)) = .fin false (2 ^ 52 + T) (((E + 1 : Nat) : Int) - 1075) := by
    rw [FP.Core.val64_dmul, bD_val h1 (by omega) hT, v_two]
    refine FP.Core.roundRatio_exact FP.Core.good_b64 (by decide) ⟨?_, ?_, ?_, Or.inr ?_⟩ ?_
    · rw [two53]; omega
    · rw [FP.Core.qmin_b64]; omega
    · rw [qmax_b64]; omega
    · rw [FP.Core.tails_b64]; omega
    · rw [show ((E : Int) - 1075 + -51 - (((E + 1 : Nat) : Int) - 1075)).toNat = 0 by omega, show ((((E + 1 : Nat) : Int) - 1075) - ((E : Int) - 1075 + -51)).toNat = 52 by omega, Nat.pow_zero, Nat.mul_one, Nat.mul_one]
  exact FP.Core.val64_inj (by rw [e]; exact fun z => by cases z) (by rw [e, bD_val (by omega) (by omega) hT])
/-- what is left of a number from 1 on below 2 -/
theorem bD_frac (hT : T < 2 ^ 52) : FP.Core.val64 (FP.Core.dsub (bD 1023 T) FP.Core.dconst1) ≠ .nan ∧ FP.Core.Whole (T : Int) (FP.Core.val64 (FP.Core.dmul (FP.Core.dsub (bD 1023 T) FP.Core.dconst1) (4841369599423283200 : UInt64))) := by
  have e : FP.Core.val64 (FP.Core.dsub (bD 1023 T) FP.Core.dconst1) = FP.Core.round FP.Core.b64 (.fin false T (-52)) := by
    rw [FP.Core.val64_dsub, bD_val (by decide) (by decide) hT, FP.Core.val64_dconst1]
    have e1 : FP.Core.sumUnits false (2 ^ 52 + T) (((1023 : Nat) : Int) - 1075) true (2 ^ 52) (-52) (min (((1023 : Nat) : Int) - 1075) (-52)) = (T : Int) := by
      show ((2 ^ 52 + T) * 2 ^ 0 : Nat) + -(((2 ^ 52) * 2 ^ 0 : Nat) : Int) = (T : Int)
      omega
    show FP.Core.round FP.Core.b64 (.fin (FP.Core.sumSign false true (FP.Core.sumUnits false (2 ^ 52 + T) (((1023 : Nat) : Int) - 1075) true (2 ^ 52) (-52) (min (((1023 : Nat) : Int) - 1075) (-52)))) (FP.Core.sumUnits false (2 ^ 52 + T) (((1023 : Nat) : Int) - 1075) true (2 ^ 52) (-52) (min (((1023 : Nat) : Int) - 1075) (-52))).natAbs (min (((1023 : Nat) : Int) - 1075) (-52))) = _
    rw [e1]
    have e2 : FP.Core.sumSign false true (T : Int) = false := by
      unfold FP.Core.sumSign
      by_cases z : (T : Int) = 0
      · rw [if_pos z]; rfl
      · rw [if_neg z]; exact decide_eq_false (by omega)
    rw [e2, Int.natAbs_natCast]
    rfl
  obtain ⟨c', q', h1, h2⟩ := FP.Core.round_exact FP.Core.good_b64 false (c := T) (q := -52) (by rw [two53]; omega) (by rw [FP.Core.qmin_b64]; omega) (by rw [qmax_b64]; omega)
  refine ⟨by rw [e, h1]; exact fun z => (by cases z), ?_⟩
  rw [FP.Core.val64_dmul, e, h1, v_p52]
  have hf : FP.Core.fits FP.Core.b64 (.fin false c' q') := by
    rw [← h1]; exact FP.Core.round_fits FP.Core.good_b64 _
  have hq := hf.2.1
  rw [FP.Core.qmin_b64] at hq h2
  have h3 : c' * 2 ^ (q' + 1074).toNat = T * 2 ^ 1022 := by
    have : FP.Core.inUnits c' q' (-1074) = FP.Core.inUnits T (-52) (-1074) := h2
    unfold FP.Core.inUnits at this
    rw [show (q' - -1074).toNat = (q' + 1074).toNat by omega] at this
    exact this
  refine FP.Core.whole_round FP.Core.good_b64 FP.Core.wide_b64 (by rw [two53, Int.natAbs_natCast]; omega) ?_
  show FP.Core.signed false (c' * 2 ^ 52 * 2 ^ (q' + 0).toNat) = (T : Int) * ((2 ^ (-(q' + 0)).toNat : Nat) : Int)
  show ((c' * 2 ^ 52 * 2 ^ (q' + 0).toNat : Nat) : Int) = (T : Int) * ((2 ^ (-(q' + 0)).toNat : Nat) : Int)
  rw [Int.add_zero, ← Int.natCast_mul]
  congr 1
  by_cases hz : 0 ≤ q'
  · obtain ⟨m, rfl⟩ : ∃ m : Nat, q' = m := ⟨q'.toNat, by omega⟩
    rw [show ((m : Int) + 1074).toNat = m + 1074 by omega] at h3
    rw [show (-(m : Int)).toNat = 0 by omega, Int.toNat_natCast, Nat.pow_zero, Nat.mul_one]
    refine Nat.eq_of_mul_eq_mul_right (Nat.two_pow_pos 1022) ?_
    rw [← h3, Nat.mul_assoc, Nat.mul_assoc, ← Nat.pow_add, ← Nat.pow_add, show 52 + (m + 1022) = m + 1074 by omega]
  · obtain ⟨m, rfl⟩ : ∃ m : Nat, q' = -(m : Int) := ⟨(-q').toNat, by omega⟩
    rw [show (-(m : Int) + 1074).toNat = 1074 - m by omega] at h3
    rw [show (-(-(m : Int))).toNat = m by omega, show (-(m : Int)).toNat = 0 by omega, Nat.pow_zero, Nat.mul_one]
    refine Nat.eq_of_mul_eq_mul_right (Nat.two_pow_pos (1074 - m)) ?_
    rw [Nat.mul_right_comm, h3, Nat.mul_assoc, Nat.mul_assoc, ← Nat.pow_add, ← Nat.pow_add, show 1022 + 52 = m + (1074 - m) by omega]
end BDD

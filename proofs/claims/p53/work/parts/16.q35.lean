/-! ===== a share of two counts ===== -/
theorem i2d_val {p : Nat} (h0 : 0 < p) (h : p ≤ 4096) : p.log2 ≤ 12 ∧ FP.Core.val64 (FP.Core.i2d (iI (p : Int))) = .fin false (p * 2 ^ (52 - p.log2)) ((p.log2 : Int) - 52) := by
  have l1 : 2 ^ p.log2 ≤ p := Nat.log2_self_le (by omega)
  have l2 : p < 2 ^ (p.log2 + 1) := Nat.lt_log2_self
  have l3 : p.log2 < 13 := (Nat.pow_lt_pow_iff_right (by decide : 1 < 2)).mp (Nat.lt_of_le_of_lt l1 (by omega))
  generalize p.log2 = X at l1 l2 l3
  refine ⟨by omega, ?_⟩
  rw [FP.Core.val64_i2d, iI_toInt (by omega) (by omega)]
  have e : FP.Core.ofInt (p : Int) = .fin false p 0 := by
    unfold FP.Core.ofInt
    rw [decide_eq_false (by omega), Int.natAbs_natCast]
  rw [e]
  refine FP.Core.roundRatio_exact FP.Core.good_b64 (by decide) ⟨?_, ?_, ?_, Or.inr ?_⟩ ?_
  · rw [two53]
    have h1 : p * 2 ^ (52 - X) < 2 ^ (X + 1) * 2 ^ (52 - X) := Nat.mul_lt_mul_of_pos_right l2 (Nat.two_pow_pos _)
    rw [← Nat.pow_add, show X + 1 + (52 - X) = 53 by omega] at h1
    exact h1
  · rw [FP.Core.qmin_b64]; omega
  · rw [qmax_b64]; omega
  · rw [FP.Core.tails_b64]
    have h1 : 2 ^ X * 2 ^ (52 - X) ≤ p * 2 ^ (52 - X) := Nat.mul_le_mul_right _ l1
    rw [← Nat.pow_add, show X + (52 - X) = 52 by omega] at h1
    exact h1
  · rw [show (0 - ((X : Int) - 52)).toNat = 52 - X by omega, show ((X : Int) - 52 - 0).toNat = 0 by omega, Nat.pow_zero, Nat.mul_one, Nat.mul_one]
theorem units_K {K : Nat} (h : 1 ≤ K) : FP.Core.unitsOf FP.Core.b64 (K * 2 ^ 52) = 2 ^ (52 + (K - 1)) := by
  have := FP.Core.unitsOf_start (f := FP.Core.b64) h
  rw [FP.Core.tails_b64] at this
  rw [this, Nat.pow_add]
theorem pw_le {p p' A B C : Nat} (h : p' ≤ p * C) : B * (p' * A) ≤ p * A * (C * B) := by
  have e : B * (p * C * A) = p * A * (C * B) := by ac_rfl
  rw [← e]
  exact Nat.mul_le_mul_left _ (Nat.mul_le_mul_right _ h)
theorem share_bits {p p' : Nat} (h0 : 0 < p) (h1 : p ≤ p') (h2 : p' ≤ 4096) : ∃ E T, FP.Core.ddiv (FP.Core.i2d (iI (p : Int))) (FP.Core.i2d (iI (p' : Int))) = bD E T ∧ 1011 ≤ E ∧ E ≤ 1023 ∧ T < 2 ^ 52 := by
  obtain ⟨x1, x2⟩ := i2d_val h0 (by omega)
  obtain ⟨y1, y2⟩ := i2d_val (p := p') (by omega) h2
  generalize p.log2 = X at x1 x2
  generalize p'.log2 = Y at y1 y2
  have hd : 0 < p' * 2 ^ (52 - Y) := Nat.mul_pos (by omega) (Nat.two_pow_pos _)
  generalize hv : FP.Core.ddiv (FP.Core.i2d (iI (p : Int))) (FP.Core.i2d (iI (p' : Int))) = v
  have e : FP.Core.decode FP.Core.b64 v.toNat = FP.Core.roundRatio FP.Core.b64 false (p * 2 ^ (52 - X)) (p' * 2 ^ (52 - Y)) ((X : Int) - 52 - ((Y : Int) - 52)) := by
    show FP.Core.val64 v = _
    rw [← hv, FP.Core.val64_ddiv, x2, y2]
    exact if_neg (by omega)
  have ein : FP.Core.inUnits (p * 2 ^ (52 - X)) ((X : Int) - 52 - ((Y : Int) - 52)) (-1074) = p * 2 ^ (52 - Y) * 2 ^ 1074 := by
    unfold FP.Core.inUnits
    rw [show ((X : Int) - 52 - ((Y : Int) - 52) - -1074).toNat = 1074 + X - Y by omega, Nat.mul_assoc, Nat.mul_assoc, ← Nat.pow_add, ← Nat.pow_add, show 52 - X + (1074 + X - Y) = 52 - Y + 1074 by omega]
  have hz : ((-1074 : Int) - -1074).toNat = 0 := by decide
  have hle := FP.Core.mag_le FP.Core.good_b64 (m := 1023 * 2 ^ 52) (e0 := -1074) e hd (by rw [FP.Core.qmin_b64]; exact Int.le_refl _) (by omega) (by
    rw [ein, units_K (by decide), FP.Core.qmin_b64, hz, Nat.pow_zero, Nat.mul_one, Nat.mul_comm]
    exact Nat.mul_le_mul_left _ (Nat.mul_le_mul_right _ h1))
  have hge := FP.Core.mag_ge FP.Core.good_b64 (m := 1011 * 2 ^ 52) (e0 := -1074) e hd (by rw [FP.Core.qmin_b64]; exact Int.le_refl _) (by omega) (by rw [FP.Core.infBits_b64]; decide) (by
    rw [ein, units_K (by decide), FP.Core.qmin_b64, hz, Nat.pow_zero, Nat.mul_one, show 52 + (1011 - 1) = 1062 from rfl, show (2 : Nat) ^ 1074 = 2 ^ 12 * 2 ^ 1062 from Nat.pow_add 2 12 1062]
    exact pw_le (by omega))
  have hs : ¬ 2 ^ 63 ≤ v.toNat := by
    have h3 := FP.Core.sgn_bits (a := v) (by show FP.Core.decode FP.Core.b64 v.toNat ≠ _; rw [e]; exact FP.Core.roundRatio_ne_nan _ _ _ _ _)
    have h4 : FP.Core.sgn (FP.Core.val64 v) = false := by
      show FP.Core.sgn (FP.Core.decode FP.Core.b64 v.toNat) = _
      rw [e, FP.Core.sgn_roundRatio]
    rw [h4] at h3
    exact of_decide_eq_false h3.symm
  rw [FP.Core.mag_toNat64, Nat.mod_eq_of_lt (by omega)] at hle hge
  refine ⟨v.toNat / 2 ^ 52, v.toNat % 2 ^ 52, ?_, by omega, by omega, Nat.mod_lt _ (by decide)⟩
  unfold bD
  rw [Nat.mul_comm, Nat.div_add_mod, UInt64.ofNat_toNat]
section BTS
variable {E T : Nat}
theorem bD_lt (h1 : 1 ≤ E) (h2 : E < 1023) (hT : T < 2 ^ 52) : Op.cmpValue (FP.dcmp (bD E T) FP.dconst1) .g = -1 := by
  have e : FP.Core.dcmp (bD E T) FP.dconst1 = some .lt := by
    refine (FP.Core.dcmp_lt_key (bD_nn h1 (by omega) hT) (by show FP.Core.val64 FP.Core.dconst1 ≠ _; rw [FP.Core.val64_dconst1]; exact fun z => (by cases z))).mpr ?_
    unfold FP.Core.dkey
    rw [bD_nat (by omega) hT, if_neg (by omega), show (FP.dconst1).toNat = 1023 * 2 ^ 52 from rfl, if_neg (by decide)]
    omega
  show Op.cmpValue (FP.Core.dcmp (bD E T) FP.dconst1) .g = -1
  rw [e]; rfl
theorem bD_ge (hT : T < 2 ^ 52) : 0 ≤ Op.cmpValue (FP.dcmp (bD 1023 T) FP.dconst1) .g := by
  have hn : FP.Core.val64 FP.dconst1 ≠ .nan := by show FP.Core.val64 FP.Core.dconst1 ≠ _; rw [FP.Core.val64_dconst1]; exact fun z => (by cases z)
  show 0 ≤ Op.cmpValue (FP.Core.dcmp (bD 1023 T) FP.dconst1) .g
  have e : FP.Core.dcmp (bD 1023 T) FP.dconst1 ≠ some .lt := fun z => by
    have := (FP.Core.dcmp_lt_key (bD_nn (by decide) (by decide) hT) hn).mp z
    unfold FP.Core.dkey at this
    rw [bD_nat (by decide) hT, if_neg (by omega), show (FP.dconst1).toNat = 1023 * 2 ^ 52 from rfl, if_neg (by decide)] at this
    omega
  cases h : FP.Core.dcmp (bD 1023 T) FP.dconst1 with
  | none => decide
  | some o =>
    cases o with
    | lt => exact absurd h e
    | eq => decide
    | gt => decide
theorem lg1 : ∀ k : Nat, k < 1024 → 2 ≤ k → ¬ lg_cmp (Int64.ofInt (k : Int)) 1 ≤ 0 := by decide +kernel
theorem bits_rounds {ρ : Type} {K : UInt64 → Int64 → Option ρ} {T : Nat} (hT : T < 2 ^ 52) : ∀ (r q E E0 : Nat), E + r = 1023 → 1 ≤ E → 1 ≤ E0 → E0 + r ≤ 1023 → F_X3_bitsOf_L7 K (q + 1 + r) (bD E T) (Int64.ofInt ((E0 + r : Nat) : Int)) = K (bD 1023 T) (Int64.ofInt (E0 : Int))
  | 0, q, E, E0, hr, h1, h2, h3 => by
    rw [show E = 1023 by omega]
    show (if 0 ≤ (Op.cmpValue (FP.dcmp (bD 1023 T) FP.dconst1) .g) then K (bD 1023 T) (Int64.ofInt (E0 : Int)) else _) = _
    rw [if_pos (bD_ge hT)]
  | r + 1, q, E, E0, hr, h1, h2, h3 => by
    show (if 0 ≤ (Op.cmpValue (FP.dcmp (bD E T) FP.dconst1) .g) then K (bD E T) (Int64.ofInt ((E0 + (r + 1) : Nat) : Int)) else if (lg_cmp (Int64.ofInt ((E0 + (r + 1) : Nat) : Int)) (1 : Int64)) ≤ 0 then K (bD E T) (Int64.ofInt ((E0 + (r + 1) : Nat) : Int)) else grd ((FP.dmul (bD E T) (4611686018427387904 : UInt64)) &&& 0x7fffffffffffffff ≤ 0x7ff0000000000000) <| bnd (FP.dmul (bD E T) (4611686018427387904 : UInt64)) fun v4 => bnd ((Int64.ofInt ((E0 + (r + 1) : Nat) : Int)) - (1 : Int64)) fun v6 => F_X3_bitsOf_L7 K (q + 1 + r) v4 v6) = _
    have e : FP.dmul (bD E T) (4611686018427387904 : UInt64) = bD (E + 1) T := bD_dbl h1 (by omega) hT
    have e2 : (Int64.ofInt ((E0 + (r + 1) : Nat) : Int)) - (1 : Int64) = Int64.ofInt ((E0 + r : Nat) : Int) := by
      rw [show (1 : Int64) = Int64.ofInt 1 from rfl, ← Int64.ofInt_sub]
      congr 1; omega
    rw [bD_lt h1 (by omega) hT, if_neg (by decide), if_neg (lg1 _ (by omega) (by omega)), e, grd_t (nanv (bD_nn (by omega) (by omega) hT)), bnd_v, e2, bnd_v]
    exact bits_rounds hT r q (E + 1) E0 (by omega) (by omega) h2 (by omega)
theorem lits (hE : E ≤ 1023) (hT : T < 2 ^ 52) : ((Int64.ofInt (E : Int)) <<< ((52 : Int32).toInt64 &&& 63)) ||| Int64.ofInt (T : Int) = (bD E T).toInt64 := by
  rw [Int64.ofInt_eq_ofNat, Int64.ofInt_eq_ofNat]
  refine Int64.toBitVec_inj.mp (BitVec.eq_of_toNat_eq ?_)
  rw [Int64.toBitVec_or, Int64.toBitVec_shiftLeft, show ((((52 : Int32).toInt64 &&& 63) : Int64).toBitVec.smod 64) = 52#64 by decide, BitVec.toNat_or, BitVec.shiftLeft_eq', BitVec.toNat_shiftLeft]
  show (BitVec.ofNat 64 E).toNat <<< 52 % 2 ^ 64 ||| (BitVec.ofNat 64 T).toNat = (bD E T).toNat
  rw [bD_nat (by omega) hT, BitVec.toNat_ofNat, BitVec.toNat_ofNat, Nat.mod_eq_of_lt (show E < 2 ^ 64 by omega), Nat.mod_eq_of_lt (show T < 2 ^ 64 by omega), Nat.mod_eq_of_lt (by rw [Nat.shiftLeft_eq]; omega), ← Nat.shiftLeft_add_eq_or_of_lt hT, Nat.shiftLeft_eq]
theorem bitsOf_D (h1 : 1 ≤ E) (h2 : E ≤ 1023) (hT : T < 2 ^ 52) : F_X3_bitsOf (bD E T) = some (bD E T).toInt64 := by
  obtain ⟨q, hq⟩ := fuelS (1023 - E) (by omega)
  obtain ⟨f1, f2⟩ := bD_frac hT
  unfold F_X3_bitsOf
  rw [hq, show (1023 : Int64) = Int64.ofInt ((E + (1023 - E) : Nat) : Int) by rw [show E + (1023 - E) = 1023 by omega]; rfl]
  refine Eq.trans (bits_rounds (K := fun v8 v9 => grd ((FP.dsub v8 FP.dconst1) &&& 0x7fffffffffffffff ≤ 0x7ff0000000000000) <| grd ((FP.dmul (FP.dsub v8 FP.dconst1) (4841369599423283200 : UInt64)) &&& 0x7fffffffffffffff ≤ 0x7ff0000000000000) <| bnd (FP.d2l (FP.dmul (FP.dsub v8 FP.dconst1) (4841369599423283200 : UInt64))) fun v12 => some ((v9 <<< ((52 : Int32).toInt64 &&& 63)) ||| v12)) hT (1023 - E) q E E (by omega) h1 h1 (by omega)) ?_
  show (grd ((FP.Core.dsub (bD 1023 T) FP.Core.dconst1) &&& 0x7fffffffffffffff ≤ 0x7ff0000000000000) <| grd ((FP.Core.dmul (FP.Core.dsub (bD 1023 T) FP.Core.dconst1) (4841369599423283200 : UInt64)) &&& 0x7fffffffffffffff ≤ 0x7ff0000000000000) <| bnd (FP.Core.d2l (FP.Core.dmul (FP.Core.dsub (bD 1023 T) FP.Core.dconst1) (4841369599423283200 : UInt64))) fun v12 => some ((Int64.ofInt (E : Int) <<< ((52 : Int32).toInt64 &&& 63)) ||| v12)) = _
  have e : FP.Core.d2l (FP.Core.dmul (FP.Core.dsub (bD 1023 T) FP.Core.dconst1) (4841369599423283200 : UInt64)) = Int64.ofInt (T : Int) := FP.Core.d2l_int (by
    rw [Int64.toInt_ofInt_of_le (by omega) (by omega)]
    exact f2)
  rw [grd_t (nanv f1), grd_t (nanv (FP.Core.Whole.ne_nan f2)), e, bnd_v, lits h2 hT]
end BTS
theorem nd_ct {p : Nat → Bool} : ∀ (N : Nat) (l : List Nat), l.Nodup → (∀ a ∈ l, a < N ∧ p a = true) → l.length ≤ fb_ct p N
  | 0, l, _, h => by
    cases l with
    | nil => exact Nat.le_refl _
    | cons a l => exact absurd (h a List.mem_cons_self).1 (Nat.not_lt_zero a)
  | N + 1, l, hn, h => by
    rw [fb_ct_succ]
    by_cases e : N ∈ l
    · rw [if_pos (h N e).2]
      have h1 := nd_ct (p := p) N (l.erase N) (hn.erase N) (fun a ha => by
        have ha2 := List.mem_of_mem_erase ha
        have := h a ha2
        have hne : a ≠ N := fun z => by
          rw [z] at ha
          exact (hn.not_mem_erase) ha
        exact ⟨by omega, this.2⟩)
      rw [List.length_erase_of_mem e] at h1
      have := List.length_pos_of_mem e
      omega
    · have h1 := nd_ct (p := p) N l hn (fun a ha => by
        have := h a ha
        have hne : a ≠ N := fun z => e (z ▸ ha)
        exact ⟨by omega, this.2⟩)
      omega
section SHC
variable {n w k : Nat} {z : Int} {L P G lc : Nat → Nat} {lb : Nat → Int}
theorem share_rng {s : Nat} {S : SS} (h : SrS w L G n 3 s S) (hn : n ≤ 6) : 0 < S.2.length ∧ S.2.length ≤ Aall w L G n ∧ Aall w L G n ≤ 4096 := by
  obtain ⟨h1, h2, h3⟩ := srs_len h hn
  obtain ⟨d, hI⟩ := id h
  have h4 := pow4_le hn
  have h5 : Aall w L G n ≤ 4 ^ n := fb_ct_le _ _
  exact ⟨h2, nd_ct _ _ hI.1.1 (fun a ha => (hI.1.2.1 a ha).1), by omega⟩
/-- the share itself, on both sides, and its bits -/
theorem share_I (hW : PkW n w k z L P G lc lb) : ∃ v, F_X3_share (iI (Acnt w L G n (enc P n))) (iI ((Aall w L G n : Nat) : Int)) = some v ∧ FP.ddiv (FP.i2d (iI (Acnt w L G n (enc P n)))) (FP.i2d (iI ((Aall w L G n : Nat) : Int))) = v ∧ v &&& 0x7fffffffffffffff ≤ 0x7ff0000000000000 ∧ F_X3_bitsOf v = some v.toInt64 := by
  obtain ⟨S, hS⟩ := SrS_ex (w := w) (L := L) (G := G) (m := 3) (n := n) (s := enc P n) (by decide) hW.n6 hW.2.1 hW.2.2.1 hW.vv
  obtain ⟨r1, r2, r3⟩ := share_rng hS hW.n6
  rw [Acnt_eq hS]
  obtain ⟨E, T, e1, e2, e3, e4⟩ := share_bits r1 r2 r3
  have hv : FP.ddiv (FP.i2d (iI (S.2.length : Int))) (FP.i2d (iI ((Aall w L G n : Nat) : Int))) = bD E T := e1
  have hg := nanv (bD_nn (E := E) (T := T) (by omega) (by omega) e4)
  refine ⟨bD E T, ?_, hv, hg, bitsOf_D (by omega) e3 e4⟩
  unfold F_X3_share
  rw [hv, iL_0, if_le (by omega) (by omega) (by omega) (by omega), if_neg (by omega), grd_t hg]
end SHC

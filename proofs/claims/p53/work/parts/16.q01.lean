/-! ===== whole numbers as ints ===== -/
def iI (z : Int) : Int32 := Int32.ofInt z
theorem iI_add (a b : Int) : iI a + iI b = iI (a + b) := (Int32.ofInt_add a b).symm
theorem iI_sub (a b : Int) : iI a - iI b = iI (a - b) := (Int32.ofInt_sub a b).symm
theorem iI_mul (a b : Int) : iI a * iI b = iI (a * b) := (Int32.ofInt_mul a b).symm
theorem iI_neg (a : Int) : -iI a = iI (-a) := (Int32.ofInt_neg a).symm
theorem iI_toInt {z : Int} (h1 : -2147483648 ≤ z) (h2 : z < 2147483648) : (iI z).toInt = z := Int32.toInt_ofInt_of_le h1 h2
theorem iI_lt {a b : Int} (a1 : -2147483648 ≤ a) (a2 : a < 2147483648) (b1 : -2147483648 ≤ b) (b2 : b < 2147483648) : (iI a < iI b) = (a < b) := by rw [Int32.lt_iff_toInt_lt, iI_toInt a1 a2, iI_toInt b1 b2]
theorem iI_le {a b : Int} (a1 : -2147483648 ≤ a) (a2 : a < 2147483648) (b1 : -2147483648 ≤ b) (b2 : b < 2147483648) : (iI a ≤ iI b) = (a ≤ b) := by rw [Int32.le_iff_toInt_le, iI_toInt a1 a2, iI_toInt b1 b2]
theorem iI_eq {a b : Int} (a1 : -2147483648 ≤ a) (a2 : a < 2147483648) (b1 : -2147483648 ≤ b) (b2 : b < 2147483648) : (iI a = iI b) = (a = b) := by rw [← Int32.toInt_inj, iI_toInt a1 a2, iI_toInt b1 b2]
theorem if_lt {α : Type} {a b : Int} {x y : α} (a1 : -2147483648 ≤ a) (a2 : a < 2147483648) (b1 : -2147483648 ≤ b) (b2 : b < 2147483648) : (if iI a < iI b then x else y) = if a < b then x else y := by simp only [iI_lt a1 a2 b1 b2]
theorem if_le {α : Type} {a b : Int} {x y : α} (a1 : -2147483648 ≤ a) (a2 : a < 2147483648) (b1 : -2147483648 ≤ b) (b2 : b < 2147483648) : (if iI a ≤ iI b then x else y) = if a ≤ b then x else y := by simp only [iI_le a1 a2 b1 b2]
theorem if_eq {α : Type} {a b : Int} {x y : α} (a1 : -2147483648 ≤ a) (a2 : a < 2147483648) (b1 : -2147483648 ≤ b) (b2 : b < 2147483648) : (if iI a = iI b then x else y) = if a = b then x else y := by simp only [iI_eq a1 a2 b1 b2]
theorem iI_cl {z : Int} (h0 : 0 ≤ z) (h2 : z < 2147483648) : (iI z).toNatClampNeg = z.toNat := by
  show (iI z).toInt.toNat = _
  rw [iI_toInt (by omega) h2]
theorem iI_clN {j : Nat} (h2 : (j : Int) < 2147483648) : (iI j).toNatClampNeg = j := by rw [iI_cl (by omega) h2]; exact Int.toNat_natCast j
theorem iI_ex (x : Int32) : ∃ z : Int, -2147483648 ≤ z ∧ z < 2147483648 ∧ x = iI z := ⟨x.toInt, Int32.le_toInt x, Int32.toInt_lt x, (Int32.ofInt_toInt x).symm⟩
theorem iI_nI (n : Nat) : iI (n : Int) = nI n := Int32.ofInt_eq_ofNat
theorem iL_l (n : Nat) : (OfNat.ofNat n : Int32) = iI (OfNat.ofNat n : Int) := (Int32.ofInt_eq_ofNat (n := n)).symm
theorem iL_m1 : (-1 : Int32) = iI (-1) := rfl
theorem iL_m3 : (-3 : Int32) = iI (-3) := rfl
theorem iL_0 : (0 : Int32) = iI 0 := rfl
theorem iL_1 : (1 : Int32) = iI 1 := rfl
theorem iI_and (a b : Nat) : iI (a : Int) &&& iI (b : Int) = iI ((a &&& b : Nat) : Int) := by
  rw [iI_nI, iI_nI, iI_nI]
  exact Int32.toBitVec_inj.mp (BitVec.eq_of_toNat_eq (by
    show (BitVec.ofNat 32 a &&& BitVec.ofNat 32 b).toNat = (BitVec.ofNat 32 (a &&& b)).toNat
    rw [BitVec.toNat_and, BitVec.toNat_ofNat, BitVec.toNat_ofNat, BitVec.toNat_ofNat, Nat.and_mod_two_pow]))
theorem iI_or (a b : Nat) : iI (a : Int) ||| iI (b : Int) = iI ((a ||| b : Nat) : Int) := by
  rw [iI_nI, iI_nI, iI_nI]
  exact Int32.toBitVec_inj.mp (BitVec.eq_of_toNat_eq (by
    show (BitVec.ofNat 32 a ||| BitVec.ofNat 32 b).toNat = (BitVec.ofNat 32 (a ||| b)).toNat
    rw [BitVec.toNat_or, BitVec.toNat_ofNat, BitVec.toNat_ofNat, BitVec.toNat_ofNat, Nat.or_mod_two_pow]))
theorem iI_xor (a b : Nat) : iI (a : Int) ^^^ iI (b : Int) = iI ((a ^^^ b : Nat) : Int) := by
  rw [iI_nI, iI_nI, iI_nI]
  exact Int32.toBitVec_inj.mp (BitVec.eq_of_toNat_eq (by
    show (BitVec.ofNat 32 a ^^^ BitVec.ofNat 32 b).toNat = (BitVec.ofNat 32 (a ^^^ b)).toNat
    rw [BitVec.toNat_xor, BitVec.toNat_ofNat, BitVec.toNat_ofNat, BitVec.toNat_ofNat, Nat.xor_mod_two_pow]))
theorem iI_sl : ∀ n, n < 32 → ((nI n &&& 31).toBitVec.smod 32).toNat = n := by decide +kernel
theorem iI_shl (a k : Nat) (hk : k < 32) : iI (a : Int) <<< (iI (k : Int) &&& 31) = iI ((a * 2 ^ k : Nat) : Int) := by
  rw [iI_nI, iI_nI, iI_nI]
  refine Int32.toBitVec_inj.mp (BitVec.eq_of_toNat_eq ?_)
  rw [pk_shl _ _ k (iI_sl k hk)]
  show (BitVec.ofNat 32 a).toNat * 2 ^ k % 2 ^ 32 = (BitVec.ofNat 32 (a * 2 ^ k)).toNat
  rw [BitVec.toNat_ofNat, BitVec.toNat_ofNat, Nat.mod_mul_mod]
theorem iI_shr (a k : Nat) (ha : a < 2147483648) (hk : k < 32) : iI (a : Int) >>> (iI (k : Int) &&& 31) = iI ((a / 2 ^ k : Nat) : Int) := by
  rw [iI_nI, iI_nI, iI_nI]
  exact pk_shrN ha _ k (iI_sl k hk)
theorem iI_div (a k : Nat) (ha : a < 2147483648) (hk : 0 < k) (hk2 : k < 2147483648) : iI (a : Int) / iI (k : Int) = iI ((a / k : Nat) : Int) := by
  rw [iI_nI, iI_nI, iI_nI]
  exact (Int32.ofNat_div ha hk2).symm
/-- the complement of a set within 31 bits -/
theorem iI_andn (a b : Nat) (ha : a < 2147483648) (hb : b < 2147483648) : iI (a : Int) &&& (iI (b : Int) ^^^ iI (-1)) = iI ((a &&& (b ^^^ 2147483647) : Nat) : Int) := by
  have e : iI (-1) = iI ((4294967295 : Nat) : Int) := rfl
  rw [e, iI_xor, iI_and]
  congr 1
  congr 1
  apply Nat.eq_of_testBit_eq
  intro i
  simp only [Nat.testBit_and, Nat.testBit_xor]
  by_cases hi : i < 31
  · have h1 : Nat.testBit 4294967295 i = true := by rw [show 4294967295 = 2 ^ 32 - 1 from rfl, Nat.testBit_two_pow_sub_one]; simp; omega
    have h2 : Nat.testBit 2147483647 i = true := by rw [show 2147483647 = 2 ^ 31 - 1 from rfl, Nat.testBit_two_pow_sub_one]; simp; omega
    rw [h1, h2]
  · have h1 : Nat.testBit a i = false := Nat.testBit_lt_two_pow (Nat.lt_of_lt_of_le ha (show 2 ^ 31 ≤ 2 ^ i from Nat.pow_le_pow_right (by decide) (by omega)))
    rw [h1]; simp
theorem iI_long {z : Int} (h1 : -2147483648 ≤ z) (h2 : z < 2147483648) : (iI z).toInt64.toInt = z := by rw [Int32.toInt_toInt64, iI_toInt h1 h2]
/-! ===== the functions' words ===== -/
theorem bnd_v {α β : Type} (a : α) (g : α → β) : bnd a g = g a := rfl
theorem ob_s {α β : Type} (v : α) (g : α → Option β) : obind (some v) g = g v := rfl
theorem ob2_s {α β γ : Type} (v : α) (w : β) (g : α → β → Option γ) : obind2 (some (v, w)) g = g v w := rfl
theorem ob3_s {α β γ δ : Type} (u : α) (v : β) (w : γ) (g : α → β → γ → Option δ) : obind3 (some (u, v, w)) g = g u v w := rfl
theorem obX_l {α γ : Type} (v : α) (M : Wd) (g : α → Wd → Option γ) (gx : Nat → Wd → Option γ) : obindX (some (.inl v, M)) g gx = g v M := rfl
theorem obX_r {α γ : Type} (x : Nat) (M : Wd) (g : α → Wd → Option γ) (gx : Nat → Wd → Option γ) : obindX (some (.inr x, M)) g gx = gx x M := rfl
theorem ldi_I {β : Type} {a : Nat → Int32} {N : Nat} {z : Int} {g : Int32 → Option β} (h0 : 0 ≤ z) (h1 : z < N) (h2 : z < 2147483648) : ldi a N (iI z) g = g (a z.toNat) := by
  unfold ldi
  rw [if_neg, iI_cl h0 h2]
  rw [iI_cl h0 h2, iL_0, iI_lt (by omega) (by omega) (by omega) (by omega)]
  omega
theorem ldi_N {β : Type} {a : Nat → Int32} {N j : Nat} {g : Int32 → Option β} (h1 : j < N) (h2 : (j : Int) < 2147483648) : ldi a N (iI j) g = g (a j) := by
  rw [ldi_I (by omega) (by omega) h2, Int.toNat_natCast]
theorem inb_I {β : Type} {N : Nat} {z : Int} {k : Option β} (h0 : 0 ≤ z) (h1 : z < N) (h2 : z < 2147483648) : inb N (iI z) k = k := by
  unfold inb
  rw [if_neg]
  rw [iI_cl h0 h2, iL_0, iI_lt (by omega) (by omega) (by omega) (by omega)]
  omega
theorem inb_N {β : Type} {N j : Nat} {k : Option β} (h1 : j < N) (h2 : (j : Int) < 2147483648) : inb N (iI j) k = k := inb_I (by omega) (by omega) h2
theorem chB_0 {β : Type} (k : Option β) : chB (iI 0) k = k := rfl
theorem chB_1 {β : Type} (k : Option β) : chB (iI 1) k = k := rfl
theorem grd_t {β : Type} {c : Prop} [Decidable c] (h : c) (k : Option β) : grd c k = k := if_pos h
theorem fuelS (j : Nat) (h : j < 1000000000000) : ∃ m, fuelN = m + 1 + j := ⟨1000000000000 - 1 - j, by unfold fuelN; omega⟩
theorem F_abs_I {a : Int} (a1 : -2147483648 < a) (a2 : a < 2147483648) : F_abs (iI a) = iI (if 0 ≤ a then a else -a) := by
  unfold F_abs
  rw [iL_0, if_le (by omega) (by omega) (by omega) a2, iI_sub]
  by_cases h : 0 ≤ a
  · rw [if_pos h, if_pos h]
  · rw [if_neg h, if_neg h, Int.zero_sub]
theorem F_min_I {a b : Int} (a1 : -2147483648 ≤ a) (a2 : a < 2147483648) (b1 : -2147483648 ≤ b) (b2 : b < 2147483648) : F_min (iI a) (iI b) = iI (if b < a then b else a) := by
  unfold F_min
  rw [if_lt b1 b2 a1 a2]
  by_cases h : b < a
  · rw [if_pos h, if_pos h]
  · rw [if_neg h, if_neg h]
theorem F_max_I {a b : Int} (a1 : -2147483648 ≤ a) (a2 : a < 2147483648) (b1 : -2147483648 ≤ b) (b2 : b < 2147483648) : F_max (iI a) (iI b) = iI (if a < b then b else a) := by
  unfold F_max
  rw [if_lt a1 a2 b1 b2]
  by_cases h : a < b
  · rw [if_pos h, if_pos h]
  · rw [if_neg h, if_neg h]

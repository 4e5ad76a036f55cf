/-! ===== how many bits ===== -/
def pc : Nat → Nat → Nat
  | 0, _ => 0
  | b + 1, x => x % 2 + pc b (x / 2)
theorem pc_le : ∀ (b x : Nat), pc b x ≤ b
  | 0, _ => Nat.le_refl 0
  | b + 1, x => by
    have := pc_le b (x / 2)
    show x % 2 + pc b (x / 2) ≤ b + 1
    omega
theorem pc_0 : ∀ b, pc b 0 = 0
  | 0 => rfl
  | b + 1 => by
    show 0 % 2 + pc b (0 / 2) = 0
    rw [Nat.zero_div, pc_0 b]
theorem and2 (a b : Nat) : a &&& b = (a % 2 &&& b % 2) + 2 * (a / 2 &&& b / 2) := by
  have h1 : (a &&& b) % 2 = a % 2 &&& b % 2 := Nat.and_mod_two_pow (n := 1)
  have h2 : (a &&& b) / 2 = a / 2 &&& b / 2 := Nat.and_div_two_pow (n := 1)
  rw [← h1, ← h2]; omega
theorem pc_drop : ∀ (b x : Nat), 0 < x → x < 2 ^ b → pc b (x &&& (x - 1)) + 1 = pc b x
  | 0, x, h0, h1 => by rw [Nat.pow_zero] at h1; omega
  | b + 1, x, h0, h1 => by
    have hx := and2 x (x - 1)
    show (x &&& (x - 1)) % 2 + pc b ((x &&& (x - 1)) / 2) + 1 = x % 2 + pc b (x / 2)
    by_cases e : x % 2 = 1
    · have e1 : (x - 1) % 2 = 0 := by omega
      have e2 : (x - 1) / 2 = x / 2 := by omega
      rw [e, e1, e2, Nat.and_zero, Nat.and_self] at hx
      rw [hx, e, show (0 + 2 * (x / 2)) % 2 = 0 by omega, show (0 + 2 * (x / 2)) / 2 = x / 2 by omega]
      omega
    · have e0 : x % 2 = 0 := by omega
      have e1 : (x - 1) % 2 = 1 := by omega
      have e2 : (x - 1) / 2 = x / 2 - 1 := by omega
      rw [e0, e1, e2, Nat.zero_and] at hx
      have ih := pc_drop b (x / 2) (by omega) (by rw [Nat.pow_succ] at h1; omega)
      rw [hx, e0, show (0 + 2 * (x / 2 &&& (x / 2 - 1))) % 2 = 0 by omega, show (0 + 2 * (x / 2 &&& (x / 2 - 1))) / 2 = (x / 2 &&& (x / 2 - 1)) by omega]
      omega
/-! the library's way, byte by byte -/
theorem and256 (a b : Nat) : a &&& b = (a % 256 &&& b % 256) + 256 * (a / 256 &&& b / 256) := by
  have h1 : (a &&& b) % 256 = a % 256 &&& b % 256 := Nat.and_mod_two_pow (n := 8)
  have h2 : (a &&& b) / 256 = a / 256 &&& b / 256 := Nat.and_div_two_pow (n := 8)
  rw [← h1, ← h2]; omega
theorem by1 : ((List.range 256).all fun b => (List.range 2).all fun y => ((b / 2 + 128 * y) &&& 85) == (b / 2 &&& 85)) = true := by decide +kernel
theorem by2 : ((List.range 256).all fun b => (List.range 4).all fun y => ((b / 4 + 64 * y) &&& 51) == (b / 4 &&& 51)) = true := by decide +kernel
def bt1 (b : Nat) : Nat := b - (b / 2 &&& 85)
def bt2 (b : Nat) : Nat := (b &&& 51) + (b / 4 &&& 51)
def bt3 (b : Nat) : Nat := (b + b / 16) &&& 15
theorem by3 : ((List.range 256).all fun b => decide (bt1 b < 256) && (decide (bt2 (bt1 b) < 69) && (decide (bt2 (bt1 b) % 16 ≤ 4) && (bt3 (bt2 (bt1 b)) == pc 8 b)))) = true := by decide +kernel
theorem by3' {b : Nat} (h : b < 256) : bt1 b < 256 ∧ bt2 (bt1 b) < 69 ∧ bt2 (bt1 b) % 16 ≤ 4 ∧ bt3 (bt2 (bt1 b)) = pc 8 b := by
  have := List.all_eq_true.mp by3 b (List.mem_range.mpr h)
  simp only [Bool.and_eq_true, decide_eq_true_eq, beq_iff_eq] at this
  exact this
theorem st1 {b y M : Nat} (hb : b < 256) : (b + 256 * y) / 2 &&& (85 + 256 * M) = (b / 2 &&& 85) + 256 * (y / 2 &&& M) := by
  rw [and256, show (85 + 256 * M) % 256 = 85 by omega, show (85 + 256 * M) / 256 = M by omega, show (b + 256 * y) / 2 % 256 = b / 2 + 128 * (y % 2) by omega, show (b + 256 * y) / 2 / 256 = y / 2 by omega]
  have := List.all_eq_true.mp (List.all_eq_true.mp by1 b (List.mem_range.mpr hb)) (y % 2) (List.mem_range.mpr (by omega))
  rw [beq_iff_eq.mp this]
theorem st2 {b y M : Nat} (hb : b < 256) : (b + 256 * y &&& (51 + 256 * M)) + ((b + 256 * y) / 4 &&& (51 + 256 * M)) = bt2 b + 256 * ((y &&& M) + (y / 4 &&& M)) := by
  rw [and256 (b + 256 * y), and256 ((b + 256 * y) / 4), show (51 + 256 * M) % 256 = 51 by omega, show (51 + 256 * M) / 256 = M by omega, show (b + 256 * y) % 256 = b by omega, show (b + 256 * y) / 256 = y by omega, show (b + 256 * y) / 4 % 256 = b / 4 + 64 * (y % 4) by omega, show (b + 256 * y) / 4 / 256 = y / 4 by omega]
  have := List.all_eq_true.mp (List.all_eq_true.mp by2 b (List.mem_range.mpr hb)) (y % 4) (List.mem_range.mpr (by omega))
  rw [beq_iff_eq.mp this]
  unfold bt2
  omega
theorem and15 (x : Nat) : x &&& 15 = x % 16 := Nat.and_two_pow_sub_one_eq_mod x 4
theorem st3 {b y M : Nat} (hb : b < 69) (hy : y % 16 ≤ 4) : (b + 256 * y + (b + 256 * y) / 16) &&& (15 + 256 * M) = bt3 b + 256 * ((y + y / 16) &&& M) := by
  rw [and256, show (15 + 256 * M) % 256 = 15 by omega, show (15 + 256 * M) / 256 = M by omega, show (b + 256 * y + (b + 256 * y) / 16) / 256 = y + y / 16 by omega]
  unfold bt3
  rw [and15, and15, show (b + 256 * y + (b + 256 * y) / 16) % 256 % 16 = (b + b / 16) % 16 by omega]
theorem ushr_I {x : Nat} (k : Nat) (hx : x < 4294967296) (hk : k < 32) : ((iI (x : Int)).toUInt32 >>> ((nI k).toUInt32 &&& Int32.toUInt32 31)).toInt32 = iI ((x / 2 ^ k : Nat) : Int) := by
  rw [iI_nI, iI_nI]
  refine Int32.toBitVec_inj.mp (BitVec.eq_of_toNat_eq ?_)
  show ((nI x).toUInt32 >>> ((nI k).toUInt32 &&& Int32.toUInt32 31)).toNat = (BitVec.ofNat 32 (x / 2 ^ k)).toNat
  have e : ∀ k, k < 32 → ((nI k).toUInt32 &&& Int32.toUInt32 31).toNat % 32 = k := by decide +kernel
  have hle : x / 2 ^ k ≤ x := Nat.div_le_self _ _
  rw [UInt32.toNat_shiftRight, e k hk, BitVec.toNat_ofNat, Nat.shiftRight_eq_div_pow, Nat.mod_eq_of_lt (by omega)]
  show (BitVec.ofNat 32 x).toNat / 2 ^ k = _
  rw [BitVec.toNat_ofNat, Nat.mod_eq_of_lt (by omega)]
theorem pc_split {a y : Nat} : ∀ (b c B : Nat), B = 2 ^ b → a < B → pc (b + c) (a + B * y) = pc b a + pc c y
  | 0, c, B, hB, h => by
    rw [Nat.pow_zero] at hB
    subst hB
    rw [Nat.zero_add, show a + 1 * y = y by omega]
    show pc c y = 0 + pc c y
    omega
  | b + 1, c, B, hB, h => by
    rw [Nat.pow_succ] at hB
    have e : B * y = 2 * (2 ^ b * y) := by rw [hB, Nat.mul_comm (2 ^ b) 2, Nat.mul_assoc]
    have ih := pc_split (a := a / 2) (y := y) b c (2 ^ b) rfl (by omega)
    rw [show b + 1 + c = (b + c) + 1 by omega]
    show (a + B * y) % 2 + pc (b + c) ((a + B * y) / 2) = a % 2 + pc b (a / 2) + pc c y
    rw [e, show (a + 2 * (2 ^ b * y)) % 2 = a % 2 by omega, show (a + 2 * (2 ^ b * y)) / 2 = a / 2 + 2 ^ b * y by omega, ih]
    omega
theorem kI1 : (1431655765 : Int32) = iI ((1431655765 : Nat) : Int) := (iI_nI 1431655765).symm
theorem kI2 : (858993459 : Int32) = iI ((858993459 : Nat) : Int) := (iI_nI 858993459).symm
theorem kI3 : (252645135 : Int32) = iI ((252645135 : Nat) : Int) := (iI_nI 252645135).symm
theorem kI4 : (63 : Int32) = iI ((63 : Nat) : Int) := (iI_nI 63).symm
theorem bc1 {x y : Nat} (hx : x < 4294967296) (h : (x : Int) - ((x / 2 &&& 1431655765 : Nat) : Int) = (y : Int)) : iI (x : Int) - (((iI (x : Int)).toUInt32 >>> ((1 : Int32).toUInt32 &&& Int32.toUInt32 31)).toInt32 &&& (1431655765 : Int32)) = iI (y : Int) := by
  rw [show (1 : Int32) = nI 1 from rfl, ushr_I 1 hx (by decide), kI1, iI_and, iI_sub, show 2 ^ 1 = 2 from rfl, h]
theorem bc2 {x y : Nat} (hx : x < 4294967296) (h : (x &&& 858993459) + (x / 4 &&& 858993459) = y) : (iI (x : Int) &&& (858993459 : Int32)) + (((iI (x : Int)).toUInt32 >>> ((2 : Int32).toUInt32 &&& Int32.toUInt32 31)).toInt32 &&& (858993459 : Int32)) = iI (y : Int) := by
  rw [show (2 : Int32) = nI 2 from rfl, ushr_I 2 hx (by decide), kI2, iI_and, iI_and, iI_add, show 2 ^ 2 = 4 from rfl, ← h]
  rfl
theorem bc3 {x y : Nat} (hx : x < 4294967296) (h : (x + x / 16) &&& 252645135 = y) : (iI (x : Int) + ((iI (x : Int)).toUInt32 >>> ((4 : Int32).toUInt32 &&& Int32.toUInt32 31)).toInt32) &&& (252645135 : Int32) = iI (y : Int) := by
  rw [show (4 : Int32) = nI 4 from rfl, ushr_I 4 hx (by decide), kI3, iI_add, show 2 ^ 4 = 16 from rfl, show (x : Int) + ((x / 16 : Nat) : Int) = ((x + x / 16 : Nat) : Int) from rfl, iI_and, h]
theorem bc4 {x : Nat} (hx : x < 4294967296) : iI (x : Int) + ((iI (x : Int)).toUInt32 >>> ((8 : Int32).toUInt32 &&& Int32.toUInt32 31)).toInt32 = iI ((x + x / 256 : Nat) : Int) := by
  rw [show (8 : Int32) = nI 8 from rfl, ushr_I 8 hx (by decide), iI_add, show 2 ^ 8 = 256 from rfl]
  rfl
theorem bc5 {x : Nat} (hx : x < 4294967296) : iI (x : Int) + ((iI (x : Int)).toUInt32 >>> ((16 : Int32).toUInt32 &&& Int32.toUInt32 31)).toInt32 = iI ((x + x / 65536 : Nat) : Int) := by
  rw [show (16 : Int32) = nI 16 from rfl, ushr_I 16 hx (by decide), iI_add, show 2 ^ 16 = 65536 from rfl]
  rfl
theorem bc6 {x : Nat} : iI (x : Int) &&& (63 : Int32) = iI ((x % 64 : Nat) : Int) := by
  rw [kI4, iI_and, show x &&& 63 = x % 64 from Nat.and_two_pow_sub_one_eq_mod x 6]
theorem bc_all {x y z P a b c d e : Nat} (h1 : (x : Int) - ((x / 2 &&& 1431655765 : Nat) : Int) = (y : Int)) (h2 : (y &&& 858993459) + (y / 4 &&& 858993459) = z) (h3 : (z + z / 16) &&& 252645135 = a + 256 * (b + 256 * (c + 256 * d))) (h4 : P = a + (b + (c + e))) (h5 : d = e) (hx : x < 4294967296) (hy : y < 4294967296) (hz : z < 4294967296) (ha : a ≤ 8) (hb : b ≤ 8) (hc : c ≤ 8) (hd : d ≤ 8) : F_J6_bitCount_0f7a4 (iI (x : Int)) = iI (P : Int) := by
  unfold F_J6_bitCount_0f7a4
  rw [bc1 hx h1, bnd_v, bc2 hy h2, bnd_v, bc3 hz h3, bnd_v, bc4 (by omega), bnd_v, bc5 (by omega), bnd_v, bc6]
  have t1 : (a + 256 * (b + 256 * (c + 256 * d))) / 256 = b + 256 * (c + 256 * d) := by omega
  rw [t1]
  have t2 : (a + 256 * (b + 256 * (c + 256 * d)) + (b + 256 * (c + 256 * d))) / 65536 = c + d + 256 * d := by omega
  rw [t2]
  have t3 : (a + 256 * (b + 256 * (c + 256 * d)) + (b + 256 * (c + 256 * d)) + (c + d + 256 * d)) = (a + b + c + d) + 64 * (4 * (b + 256 * (c + 256 * d)) + 4 * (c + 256 * d) + 4 * d) := by omega
  rw [t3, show (a + b + c + d + 64 * (4 * (b + 256 * (c + 256 * d)) + 4 * (c + 256 * d) + 4 * d)) % 64 = a + b + c + d by omega, h4, h5, show a + b + c + e = a + (b + (c + e)) by omega]
theorem bitCount_I {x : Nat} (hx : x < 33554432) : F_J6_bitCount_0f7a4 (iI (x : Int)) = iI ((pc 25 x : Nat) : Int) := by
  obtain ⟨b0, b1, b2, b3, h0, h1, h2, h3, rfl⟩ : ∃ b0 b1 b2 b3 : Nat, b0 < 256 ∧ b1 < 256 ∧ b2 < 256 ∧ b3 < 2 ∧ x = b0 + 256 * (b1 + 256 * (b2 + 256 * b3)) := ⟨x % 256, x / 256 % 256, x / 65536 % 256, x / 16777216, by omega, by omega, by omega, by omega, by omega⟩
  have c0 := by3' h0
  have c1 := by3' h1
  have c2 := by3' h2
  have c3 := by3' (show b3 < 256 by omega)
  have l0 : b0 / 2 &&& 85 ≤ b0 / 2 := Nat.and_le_left
  have l1 : b1 / 2 &&& 85 ≤ b1 / 2 := Nat.and_le_left
  have l2 : b2 / 2 &&& 85 ≤ b2 / 2 := Nat.and_le_left
  have l3 : b3 / 2 &&& 85 ≤ b3 / 2 := Nat.and_le_left
  have e1 : (b0 + 256 * (b1 + 256 * (b2 + 256 * b3))) / 2 &&& 1431655765 = (b0 / 2 &&& 85) + 256 * ((b1 / 2 &&& 85) + 256 * ((b2 / 2 &&& 85) + 256 * (b3 / 2 &&& 85))) := by
    rw [show 1431655765 = 85 + 256 * (85 + 256 * (85 + 256 * 85)) from rfl, st1 h0, st1 h1, st1 h2]
  have f1 : ((b0 + 256 * (b1 + 256 * (b2 + 256 * b3)) : Nat) : Int) - (((b0 + 256 * (b1 + 256 * (b2 + 256 * b3))) / 2 &&& 1431655765 : Nat) : Int) = ((bt1 b0 + 256 * (bt1 b1 + 256 * (bt1 b2 + 256 * bt1 b3)) : Nat) : Int) := by
    rw [e1]; unfold bt1; omega
  have d3 : bt1 b3 < 2 := by
    have : ∀ b, b < 2 → bt1 b < 2 := by decide
    exact this b3 h3
  have e2 : (bt1 b0 + 256 * (bt1 b1 + 256 * (bt1 b2 + 256 * bt1 b3)) &&& 858993459) + ((bt1 b0 + 256 * (bt1 b1 + 256 * (bt1 b2 + 256 * bt1 b3))) / 4 &&& 858993459) = bt2 (bt1 b0) + 256 * (bt2 (bt1 b1) + 256 * (bt2 (bt1 b2) + 256 * bt2 (bt1 b3))) := by
    rw [show 858993459 = 51 + 256 * (51 + 256 * (51 + 256 * 51)) from rfl, st2 c0.1, st2 c1.1, st2 c2.1]
    unfold bt2
    omega
  have g3 : bt2 (bt1 b3) < 2 := by
    have : ∀ b, b < 2 → bt2 (bt1 b) < 2 := by decide
    exact this b3 h3
  have e3 : (bt2 (bt1 b0) + 256 * (bt2 (bt1 b1) + 256 * (bt2 (bt1 b2) + 256 * bt2 (bt1 b3))) + (bt2 (bt1 b0) + 256 * (bt2 (bt1 b1) + 256 * (bt2 (bt1 b2) + 256 * bt2 (bt1 b3)))) / 16) &&& 252645135 = pc 8 b0 + 256 * (pc 8 b1 + 256 * (pc 8 b2 + 256 * pc 8 b3)) := by
    rw [show 252645135 = 15 + 256 * (15 + 256 * (15 + 256 * 15)) from rfl, st3 c0.2.1 (by omega), st3 c1.2.1 (by omega), st3 c2.2.1 (by omega), c0.2.2.2, c1.2.2.2, c2.2.2.2]
    have := c3.2.2.2
    unfold bt3 at this
    rw [this]
  have p0 := pc_le 8 b0
  have p1 := pc_le 8 b1
  have p2 := pc_le 8 b2
  have p3 := pc_le 8 b3
  have hpc : pc 25 (b0 + 256 * (b1 + 256 * (b2 + 256 * b3))) = pc 8 b0 + (pc 8 b1 + (pc 8 b2 + pc 1 b3)) := by
    have q1 := pc_split (a := b0) (y := b1 + 256 * (b2 + 256 * b3)) 8 17 256 (by decide) h0
    have q2 := pc_split (a := b1) (y := b2 + 256 * b3) 8 9 256 (by decide) h1
    have q3 := pc_split (a := b2) (y := b3) 8 1 256 (by decide) h2
    rw [show (25 : Nat) = 8 + 17 from rfl, q1, show (17 : Nat) = 8 + 9 from rfl, q2, show (9 : Nat) = 8 + 1 from rfl, q3]
  have p31 : pc 8 b3 = pc 1 b3 := by
    have : ∀ b, b < 2 → pc 8 b = pc 1 b := by decide
    exact this b3 h3
  exact bc_all f1 e2 e3 hpc p31 (by omega) (by omega) (by omega) p0 p1 p2 p3

/-! ===== arrangements as numbers: digits to the base 4 ===== -/
def dg (a i : Nat) : Nat := a / 4 ^ i % 4
theorem dg_0 (a : Nat) : dg a 0 = a % 4 := by unfold dg; rw [Nat.pow_zero, Nat.div_one]
theorem dg_s (a i : Nat) : dg a (i + 1) = dg (a / 4) i := by unfold dg; rw [Nat.pow_succ, Nat.mul_comm, Nat.div_div_eq_div_mul]
theorem dg_lt (a i : Nat) : dg a i < 4 := Nat.mod_lt _ (by decide)
/-- digit c becomes q -/
def setd : Nat → Nat → Nat → Nat
  | a, 0, q => q + 4 * (a / 4)
  | a, c + 1, q => a % 4 + 4 * setd (a / 4) c q
theorem dg_setd : ∀ (c a q i : Nat), q < 4 → dg (setd a c q) i = if i = c then q else dg a i
  | 0, a, q, 0, hq => by rw [if_pos rfl, dg_0]; unfold setd; omega
  | 0, a, q, i + 1, hq => by rw [if_neg (by omega), dg_s, dg_s]; unfold setd; rw [show (q + 4 * (a / 4)) / 4 = a / 4 by omega]
  | c + 1, a, q, 0, hq => by rw [if_neg (by omega), dg_0, dg_0]; unfold setd; omega
  | c + 1, a, q, i + 1, hq => by
    rw [dg_s, dg_s]; unfold setd
    rw [show (a % 4 + 4 * setd (a / 4) c q) / 4 = setd (a / 4) c q by omega, dg_setd c (a / 4) q i hq]
    by_cases h : i = c
    · rw [if_pos h, if_pos (by omega)]
    · rw [if_neg h, if_neg (by omega)]
theorem setd_add : ∀ (c a k : Nat), setd a c (dg a c + k) = a + k * 4 ^ c
  | 0, a, k => by rw [dg_0]; unfold setd; rw [Nat.pow_zero]; omega
  | c + 1, a, k => by
    rw [dg_s]; unfold setd
    rw [setd_add c (a / 4) k, Nat.pow_succ, Nat.mul_comm (4 ^ c) 4, ← Nat.mul_assoc, Nat.mul_comm k 4, Nat.mul_assoc]
    omega
theorem setd_self (c a : Nat) : setd a c (dg a c) = a := by have := setd_add c a 0; simpa using this
theorem setd_sub (c a k : Nat) (h : k ≤ dg a c) : setd a c (dg a c - k) + k * 4 ^ c = a := by
  have h1 := setd_add c (setd a c (dg a c - k)) k
  have h2 : dg (setd a c (dg a c - k)) c = dg a c - k := by rw [dg_setd c a _ c (by have := dg_lt a c; omega), if_pos rfl]
  rw [h2, show dg a c - k + k = dg a c by omega] at h1
  rw [← h1]
  have h3 : ∀ (c a q r : Nat), q < 4 → setd (setd a c q) c r = setd a c r := by
    intro c
    induction c with
    | zero =>
      intro a q r hq
      show r + 4 * ((q + 4 * (a / 4)) / 4) = r + 4 * (a / 4)
      omega
    | succ c ih =>
      intro a q r hq
      show (setd a (c + 1) q) % 4 + 4 * setd ((setd a (c + 1) q) / 4) c r = _
      have e1 : setd a (c + 1) q = a % 4 + 4 * setd (a / 4) c q := rfl
      rw [show (setd a (c + 1) q) / 4 = setd (a / 4) c q by rw [e1]; omega, ih _ _ _ hq, show (setd a (c + 1) q) % 4 = a % 4 by rw [e1]; omega]
      rfl
  rw [h3 c a _ _ (by have := dg_lt a c; omega), setd_self]
theorem setd_lt : ∀ (n c a q : Nat), a < 4 ^ n → c < n → q < 4 → setd a c q < 4 ^ n
  | 0, c, a, q, _, hc, _ => by omega
  | n + 1, 0, a, q, ha, _, hq => by
    rw [Nat.pow_succ] at ha ⊢
    unfold setd
    have : a / 4 < 4 ^ n := by omega
    omega
  | n + 1, c + 1, a, q, ha, hc, hq => by
    rw [Nat.pow_succ] at ha ⊢
    unfold setd
    have := setd_lt n c (a / 4) q (by omega) (by omega) hq
    omega
theorem setd_dg (a c q : Nat) (hq : q < 4) : dg (setd a c q) = updN (dg a) c q := funext fun i => dg_setd c a q i hq
/-- the arrangement of places -/
def enc (p : Nat → Nat) : Nat → Nat
  | 0 => 0
  | i + 1 => enc p i + p i * 4 ^ i
theorem enc_lt {p : Nat → Nat} : ∀ {n : Nat}, (∀ i, i < n → p i < 4) → enc p n < 4 ^ n
  | 0, _ => Nat.one_pos
  | n + 1, h => by
    have h1 := enc_lt (n := n) (fun i hi => h i (by omega))
    have h2 := h n (by omega)
    unfold enc
    rw [Nat.pow_succ]
    have : p n * 4 ^ n ≤ 3 * 4 ^ n := Nat.mul_le_mul_right _ (by omega)
    omega
theorem dg_high {a c d i : Nat} (ha : a < 4 ^ c) : dg (a + d * 4 ^ c) i = if i < c then dg a i else dg d (i - c) := by
  unfold dg
  by_cases h : i < c
  · rw [if_pos h]
    have e : d * 4 ^ c = 4 ^ i * (4 * (d * 4 ^ (c - i - 1))) := by
      have : 4 ^ c = 4 ^ i * (4 * 4 ^ (c - i - 1)) := by rw [← Nat.pow_succ', ← Nat.pow_add]; congr 1; omega
      rw [this]; ac_rfl
    rw [e, Nat.add_mul_div_left _ _ (Nat.pow_pos (by decide)), Nat.add_mul_mod_self_left]
  · rw [if_neg h]
    have e : 4 ^ i = 4 ^ c * 4 ^ (i - c) := by rw [← Nat.pow_add]; congr 1; omega
    rw [e, ← Nat.div_div_eq_div_mul, Nat.mul_comm d, Nat.add_mul_div_left _ _ (Nat.pow_pos (by decide)), Nat.div_eq_of_lt ha, Nat.zero_add]
theorem dg_enc {p : Nat → Nat} : ∀ {n : Nat}, (∀ i, i < n → p i < 4) → ∀ i, i < n → dg (enc p n) i = p i
  | 0, _, i, hi => by omega
  | n + 1, h, i, hi => by
    unfold enc
    rw [dg_high (enc_lt (fun i hi => h i (by omega)))]
    by_cases e : i < n
    · rw [if_pos e]; exact dg_enc (fun i hi => h i (by omega)) i e
    · rw [if_neg e, show i - n = 0 by omega, dg_0, show i = n by omega, Nat.mod_eq_of_lt (h n (by omega))]
theorem dg_zero (i : Nat) : dg 0 i = 0 := by unfold dg; rw [Nat.zero_div]
theorem pow4 (n : Nat) : 2 ^ (2 * n) = 4 ^ n := by rw [Nat.pow_mul]
theorem pow4_le {n : Nat} (h : n ≤ 6) : 4 ^ n ≤ 4096 := (show 4 ^ n ≤ 4 ^ 6 from Nat.pow_le_pow_right (by decide) h)
/-! ===== the digits in the code's words ===== -/
theorem dg_I {a c : Nat} (ha : a < 4096) (hc : c < 6) : (iI (a : Int) >>> (((2 : Int32) * iI (c : Int)) &&& 31)) &&& (3 : Int32) = iI (dg a c : Nat) := by
  rw [show (2 : Int32) = iI ((2 : Nat) : Int) from rfl, iI_mul, show ((2 : Nat) : Int) * (c : Int) = ((2 * c : Nat) : Int) by omega, iI_shr _ _ (by omega) (by omega), show (3 : Int32) = iI ((3 : Nat) : Int) from rfl, iI_and, pow4]
  rw [show a / 4 ^ c &&& 3 = a / 4 ^ c % 4 from Nat.and_two_pow_sub_one_eq_mod _ 2]
  rfl
theorem p4_I {c : Nat} (hc : c < 6) : (1 : Int32) <<< (((2 : Int32) * iI (c : Int)) &&& 31) = iI (4 ^ c : Nat) := by
  rw [show (2 : Int32) = iI ((2 : Nat) : Int) from rfl, iI_mul, show ((2 : Nat) : Int) * (c : Int) = ((2 * c : Nat) : Int) by omega, show (1 : Int32) = iI ((1 : Nat) : Int) from rfl, iI_shl _ _ (by omega), pow4, Nat.one_mul]
theorem shl_I {q c : Nat} (hc : c < 6) : iI (q : Int) <<< (((2 : Int32) * iI (c : Int)) &&& 31) = iI (q * 4 ^ c : Nat) := by
  rw [show (2 : Int32) = iI ((2 : Nat) : Int) from rfl, iI_mul, show ((2 : Nat) : Int) * (c : Int) = ((2 * c : Nat) : Int) by omega, iI_shl _ _ (by omega), pow4]
theorem and4 (a b : Nat) : a &&& b = (a % 4 &&& b % 4) + 4 * (a / 4 &&& b / 4) := by
  have h1 : (a &&& b) % 4 = a % 4 &&& b % 4 := Nat.and_mod_two_pow (n := 2)
  have h2 : (a &&& b) / 4 = a / 4 &&& b / 4 := Nat.and_div_two_pow (n := 2)
  rw [← h1, ← h2]; omega
theorem or4 (a b : Nat) : a ||| b = (a % 4 ||| b % 4) + 4 * (a / 4 ||| b / 4) := by
  have h1 : (a ||| b) % 4 = a % 4 ||| b % 4 := Nat.or_mod_two_pow (n := 2)
  have h2 : (a ||| b) / 4 = a / 4 ||| b / 4 := Nat.or_div_two_pow (n := 2)
  rw [← h1, ← h2]; omega
theorem and3 : ∀ r, r < 4 → r &&& 3 = r := by decide
theorem or0 : ∀ r, r < 4 → r ||| 0 = r := by decide
/-- the mask that clears digit c, of e digits -/
theorem clr_or : ∀ (c e a q : Nat), c < e → a < 4 ^ e → q < 4 → (a &&& (4 ^ e - 1 - 3 * 4 ^ c)) ||| q * 4 ^ c = setd a c q
  | 0, 0, a, q, hc, _, _ => by omega
  | 0, e + 1, a, q, _, ha, hq => by
    rw [Nat.pow_succ] at ha ⊢
    have hp : 0 < 4 ^ e := Nat.pow_pos (by decide)
    rw [and4, show (4 ^ e * 4 - 1 - 3 * 4 ^ 0) % 4 = 0 by rw [Nat.pow_zero]; omega, show (4 ^ e * 4 - 1 - 3 * 4 ^ 0) / 4 = 4 ^ e - 1 by rw [Nat.pow_zero]; omega, Nat.and_zero, Nat.zero_add]
    have h1 : a / 4 &&& (4 ^ e - 1) = a / 4 := by
      rw [← pow4, Nat.and_two_pow_sub_one_eq_mod, Nat.mod_eq_of_lt]
      rw [pow4]; omega
    rw [h1, or4, show 4 * (a / 4) % 4 = 0 by omega, show 4 * (a / 4) / 4 = a / 4 by omega, show q * 4 ^ 0 % 4 = q by rw [Nat.pow_zero]; omega, show q * 4 ^ 0 / 4 = 0 by rw [Nat.pow_zero]; omega, Nat.or_zero, Nat.zero_or]
    rfl
  | c + 1, 0, a, q, hc, _, _ => by omega
  | c + 1, e + 1, a, q, hc, ha, hq => by
    have ih := clr_or c e (a / 4) q (by omega) (by rw [Nat.pow_succ] at ha; omega) hq
    have hp : 4 ^ c * 4 ≤ 4 ^ e := by rw [← Nat.pow_succ]; exact Nat.pow_le_pow_right (by decide) (by omega)
    have hm : 4 ^ (e + 1) - 1 - 3 * 4 ^ (c + 1) = 3 + 4 * (4 ^ e - 1 - 3 * 4 ^ c) := by rw [Nat.pow_succ, Nat.pow_succ]; omega
    rw [hm, and4 a, show (3 + 4 * (4 ^ e - 1 - 3 * 4 ^ c)) % 4 = 3 by omega, show (3 + 4 * (4 ^ e - 1 - 3 * 4 ^ c)) / 4 = 4 ^ e - 1 - 3 * 4 ^ c by omega, and3 _ (by omega)]
    have e1 : q * 4 ^ (c + 1) = 4 * (q * 4 ^ c) := by rw [Nat.pow_succ]; ac_rfl
    rw [e1, or4, show (a % 4 + 4 * (a / 4 &&& (4 ^ e - 1 - 3 * 4 ^ c))) % 4 = a % 4 by omega, show (a % 4 + 4 * (a / 4 &&& (4 ^ e - 1 - 3 * 4 ^ c))) / 4 = a / 4 &&& (4 ^ e - 1 - 3 * 4 ^ c) by omega, show 4 * (q * 4 ^ c) % 4 = 0 by omega, show 4 * (q * 4 ^ c) / 4 = q * 4 ^ c by omega, or0 _ (by omega), ih]
    rfl
theorem clr_f : ∀ c, c < 6 → ((3 : Int32) <<< (((2 : Int32) * iI (c : Nat)) &&& 31)) ^^^ (-1 : Int32) = iI ((4294967295 - 3 * 4 ^ c : Nat) : Int) := by decide +kernel
theorem clr_I {a c q : Nat} (ha : a < 4096) (hc : c < 6) (hq : q < 4) : (iI (a : Int) &&& (((3 : Int32) <<< (((2 : Int32) * iI (c : Int)) &&& 31)) ^^^ (-1 : Int32))) ||| (iI (q : Int) <<< (((2 : Int32) * iI (c : Int)) &&& 31)) = iI (setd a c q : Nat) := by
  rw [clr_f c hc, shl_I hc, iI_and, iI_or]
  have h := clr_or c 16 a q (by omega) (Nat.lt_of_lt_of_le ha (by decide)) hq
  rw [show 4 ^ 16 - 1 - 3 * 4 ^ c = 4294967295 - 3 * 4 ^ c by rw [show 4 ^ 16 = 4294967296 from rfl]] at h
  rw [h]
/-! ===== steps ===== -/
def okc (w : Nat) (L G : Nat → Nat) (n a : Nat) : Bool := okb w L G (dg a) n
/-- the arrangement behind a step of car c, forwards or back -/
def stp (w : Nat) (L G : Nat → Nat) (n c : Nat) (f : Bool) (a : Nat) : Option Nat :=
  if f = true then (if dg a c + 1 < 4 ∧ okc w L G n (a + 4 ^ c) = true then some (a + 4 ^ c) else none)
  else (if 1 ≤ dg a c ∧ okc w L G n (a - 4 ^ c) = true then some (a - 4 ^ c) else none)
theorem stp_up {a c : Nat} : a + 4 ^ c = setd a c (dg a c + 1) := by rw [setd_add, Nat.one_mul]
theorem stp_down {a c : Nat} (h : 1 ≤ dg a c) : a - 4 ^ c = setd a c (dg a c - 1) ∧ 4 ^ c ≤ a := by
  have := setd_sub c a 1 h
  rw [Nat.one_mul] at this
  omega
theorem stp_ok {w : Nat} {L G : Nat → Nat} {n c : Nat} {f : Bool} {a b : Nat} (ha : a < 4 ^ n) (hc : c < n) (h : stp w L G n c f a = some b) : b < 4 ^ n ∧ okc w L G n b = true := by
  unfold stp at h
  cases f with
  | true =>
    rw [if_pos rfl] at h
    by_cases hh : dg a c + 1 < 4 ∧ okc w L G n (a + 4 ^ c) = true
    · rw [if_pos hh] at h
      cases h
      exact ⟨by rw [stp_up]; exact setd_lt n c a _ ha hc hh.1, hh.2⟩
    · rw [if_neg hh] at h; cases h
  | false =>
    rw [if_neg (by decide)] at h
    by_cases hh : 1 ≤ dg a c ∧ okc w L G n (a - 4 ^ c) = true
    · rw [if_pos hh] at h
      cases h
      exact ⟨Nat.lt_of_le_of_lt (Nat.sub_le _ _) ha, hh.2⟩
    · rw [if_neg hh] at h; cases h
/-- the arrangements behind up to m steps -/
def pth (w : Nat) (L G : Nat → Nat) (n c : Nat) (f : Bool) : Nat → Nat → List Nat
  | 0, _ => []
  | m + 1, a => match stp w L G n c f a with
    | none => []
    | some b => b :: pth w L G n c f m b
theorem pth_ok {w : Nat} {L G : Nat → Nat} {n c : Nat} {f : Bool} (hc : c < n) : ∀ {m a : Nat}, a < 4 ^ n → ∀ b ∈ pth w L G n c f m a, b < 4 ^ n ∧ okc w L G n b = true
  | 0, _, _, b, hb => by cases hb
  | m + 1, a, ha, b, hb => by
    unfold pth at hb
    cases e : stp w L G n c f a with
    | none => rw [e] at hb; cases hb
    | some v =>
      rw [e] at hb
      have hv := stp_ok ha hc e
      rcases List.mem_cons.mp hb with rfl | hb
      · exact hv
      · exact pth_ok hc hv.1 b hb

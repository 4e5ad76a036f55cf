/-! ===== the model's searches ===== -/
theorem i10_eqI {c : Prop} [Decidable c] {α : Type} {x y : α} : (if (if c then iI 1 else iI 0) = iI 0 then x else y) = if c then y else x := i10_eq0
theorem setd_setd : ∀ (c a q r : Nat), q < 4 → setd (setd a c q) c r = setd a c r
  | 0, a, q, r, hq => by
    show r + 4 * ((q + 4 * (a / 4)) / 4) = r + 4 * (a / 4)
    omega
  | c + 1, a, q, r, hq => by
    have e1 : setd a (c + 1) q = a % 4 + 4 * setd (a / 4) c q := rfl
    show (setd a (c + 1) q) % 4 + 4 * setd ((setd a (c + 1) q) / 4) c r = _
    rw [show (setd a (c + 1) q) / 4 = setd (a / 4) c q by rw [e1]; omega, setd_setd c _ _ _ hq, show (setd a (c + 1) q) % 4 = a % 4 by rw [e1]; omega]
    rfl
/-- the model's table for walls w and n cars -/
def PM (w n : Nat) (L G : Nat → Nat) (M : Wd) : Prop :=
  (n ≤ 6 ∧ w < 33554432 ∧ LGok L G n) ∧ M.1 53 9 = iI (n : Int) ∧ M.1 53 10 = iI (w : Int) ∧ (∀ i, i < n → M.1 55 (13 + i) = iI (G i : Int)) ∧
  ∀ k q, k < n → q < 4 → M.1 58 (4 * k + q) = iI ((if q + G k ≤ 5 then cm (L k) q (G k) else 0 : Nat) : Int)
def frG (M M' : Wd) : Prop := (∀ c, c ≠ 59 → c ≠ 60 → c ≠ 53 → M'.1 c = M.1 c) ∧ (∀ j, j ≠ 14 → M'.1 53 j = M.1 53 j) ∧ M'.2 = M.2
theorem frG.rf (M : Wd) : frG M M := ⟨fun _ _ _ _ => rfl, fun _ _ => rfl, rfl⟩
theorem frG.tr {M N O : Wd} (h : frG M N) (h2 : frG N O) : frG M O := ⟨fun c a b d => by rw [h2.1 c a b d, h.1 c a b d], fun j hj => by rw [h2.2.1 j hj, h.2.1 j hj], by rw [h2.2.2, h.2.2]⟩
/-- the costs in the model's cells -/
def SM (M : Wd) (S : SS) : Prop := (∀ a, a < 4096 → M.1 59 a = iI (S.1 a)) ∧ (∀ j, j < S.2.length → M.1 60 j = iI (S.2.getD j 0 : Nat)) ∧ M.1 53 14 = iI (S.2.length : Nat)
section XM
variable {w n : Nat} {L G : Nat → Nat} {M : Wd} {S : SS}
theorem cm_lt {k q : Nat} (h : LGok L G n) (hk : k < n) (hq : q + G k ≤ 5) : 0 < cm (L k) q (G k) ∧ cm (L k) q (G k) < 33554432 := by
  have := h k hk
  exact cm_lt_f _ this.1 _ (by omega) _ this.2.2 this.2.1 hq
theorem mul4_I (k q : Nat) : ((4 : Int32) * iI (k : Int)) + iI (q : Int) = iI ((4 * k + q : Nat) : Int) := by
  rw [show (4 : Int32) = iI 4 from rfl, iI_mul, iI_add]; rfl
/-- the others' cells -/
def oth (w : Nat) (L G : Nat → Nat) (n u c : Nat) : Nat := ocm w L G (dg u) n &&& (cm (L c) (dg u c) (G c) ^^^ 2147483647)
theorem oth_bit {u c x : Nat} (hw : w < 33554432) (hLG : LGok L G n) (hu : okc w L G n u = true) : (oth w L G n u c).testBit x = true ↔ (ocm w L G (dg u) n).testBit x = true ∧ ¬ (cm (L c) (dg u c) (G c)).testBit x = true := by
  unfold oth
  rw [Nat.testBit_and, Nat.testBit_xor, Bool.and_eq_true]
  have ho := okc_ocm hw hLG hu
  by_cases hx : x < 31
  · have h2 : Nat.testBit 2147483647 x = true := by rw [show 2147483647 = 2 ^ 31 - 1 from rfl, Nat.testBit_two_pow_sub_one]; simp; omega
    rw [h2]
    cases (cm (L c) (dg u c) (G c)).testBit x <;> simp
  · have h1 : (ocm w L G (dg u) n).testBit x = false := Nat.testBit_lt_two_pow (Nat.lt_of_lt_of_le ho (show 2 ^ 25 ≤ 2 ^ x from Nat.pow_le_pow_right (by decide) (by omega)))
    rw [h1]; simp
theorem move_ok {u c q : Nat} (hw : w < 33554432) (hLG : LGok L G n) (hu : okc w L G n u = true) (hc : c < n) (hq : q < 4) : okc w L G n (setd u c q) = true ↔ q + G c ≤ 5 ∧ cm (L c) q (G c) &&& oth w L G n u c = 0 := by
  unfold okc
  rw [setd_dg _ _ _ hq, okb_move hu hc, and0_iff]
  constructor
  · rintro ⟨h1, h2⟩
    exact ⟨h1, fun x hx => h2 x hx.1 ((oth_bit hw hLG hu).mp hx.2)⟩
  · rintro ⟨h1, h2⟩
    exact ⟨h1, fun x hx hh => h2 x ⟨hx, (oth_bit hw hLG hu).mpr hh⟩⟩
/-- a step, by the digit that it makes -/
theorem stp_in {a c q : Nat} {f : Bool} (hq : q < 4) (e : (dg a c : Int) + sgn f = q) : stp w L G n c f a = if okc w L G n (setd a c q) = true then some (setd a c q) else none := by
  cases f with
  | true =>
    have e2 : q = dg a c + 1 := by have : (dg a c : Int) + 1 = q := e; omega
    subst e2
    rw [stp_t, ← stp_up]
    by_cases h : okc w L G n (a + 4 ^ c) = true
    · rw [if_pos ⟨hq, h⟩, if_pos h]
    · rw [if_neg (fun z => h z.2), if_neg h]
  | false =>
    have e2 : (dg a c : Int) + (-1) = q := e
    have e3 : q = dg a c - 1 := by omega
    have e4 : 1 ≤ dg a c := by omega
    subst e3
    rw [stp_f, ← (stp_down e4).1]
    by_cases h : okc w L G n (a - 4 ^ c) = true
    · rw [if_pos ⟨e4, h⟩, if_pos h]
    · rw [if_neg (fun z => h z.2), if_neg h]
theorem stp_out {a c : Nat} {f : Bool} (e : ¬ (0 ≤ (dg a c : Int) + sgn f ∧ (dg a c : Int) + sgn f ≤ 3)) : stp w L G n c f a = none := by
  cases f with
  | true =>
    have e2 : ¬ (0 ≤ (dg a c : Int) + 1 ∧ (dg a c : Int) + 1 ≤ 3) := e
    rw [stp_t, if_neg]
    rintro ⟨h1, -⟩; omega
  | false =>
    have e2 : ¬ (0 ≤ (dg a c : Int) + (-1) ∧ (dg a c : Int) + (-1) ≤ 3) := e
    have := dg_lt a c
    rw [stp_f, if_neg]
    rintro ⟨h1, -⟩; omega
theorem sgn_b (f : Bool) : sgn f = 1 ∨ sgn f = -1 := by cases f; exact Or.inr rfl; exact Or.inl rfl
end XM

/-! ===== the model's searches ===== -/
theorem i10_eqI {c : Prop} [Decidable c] {α : Type} {x y : α} : (if (if c then iI 1 else iI 0) = iI 0 then x else y) = if c then y else x := i10_eq0
theorem setd_setd : ∀ (c a q r : Nat), q < 4 → setd (setd a c q) c r = setd a c r
  | 0, a, q, r, hq => by
    show r + 4 * ((q + 4 * (a / 4)) / 4) = r + 4 * (a / 4)
    omega
  | c + 1, a, q, r, hq => by
    have e1 : setd a (c + 1) q = a % 4 + 4 * setd (a / 4) c q := rfl
    show (setd a (c + 1) q) % 4 + 4 * setd ((setd a (c + 1) q) / 4) c r = _
    rw [show (setd a (c + 1) q) / 4 = setd (a / 4) c q by rw [e1]; omega, setd_setd c _ _ _ hq, show (setd a (c + 1) q) % 4 = a % 4 by rw [e1]; omega]
    rfl
/-- the model's table for walls w and n cars -/
def PM (w n : Nat) (L G : Nat → Nat) (M : Wd) : Prop :=
  (n ≤ 6 ∧ w < 33554432 ∧ LGok L G n) ∧ M.1 53 9 = iI (n : Int) ∧ M.1 53 10 = iI (w : Int) ∧ (∀ i, i < n → M.1 55 (13 + i) = iI (G i : Int)) ∧
  ∀ k q, k < n → q < 4 → M.1 58 (4 * k + q) = iI ((if q + G k ≤ 5 then cm (L k) q (G k) else 0 : Nat) : Int)
def frG (M M' : Wd) : Prop := (∀ c, c ≠ 59 → c ≠ 60 → c ≠ 53 → M'.1 c = M.1 c) ∧ (∀ j, j ≠ 14 → M'.1 53 j = M.1 53 j) ∧ M'.2 = M.2
theorem frG.rf (M : Wd) : frG M M := ⟨fun _ _ _ _ => rfl, fun _ _ => rfl, rfl⟩
theorem frG.tr {M N O : Wd} (h : frG M N) (h2 : frG N O) : frG M O := ⟨fun c a b d => by rw [h2.1 c a b d, h.1 c a b d], fun j hj => by rw [h2.2.1 j hj, h.2.1 j hj], by rw [h2.2.2, h.2.2]⟩
theorem PM.fr {w n : Nat} {L G : Nat → Nat} {M M' : Wd} (h : PM w n L G M) (hf : frG M M') : PM w n L G M' := by
  obtain ⟨h0, h1, h2, h3, h4⟩ := h
  refine ⟨h0, by rw [hf.2.1 9 (by decide)]; exact h1, by rw [hf.2.1 10 (by decide)]; exact h2, fun i hi => by rw [hf.1 55 (by decide) (by decide) (by decide)]; exact h3 i hi, fun k q hk hq => by rw [hf.1 58 (by decide) (by decide) (by decide)]; exact h4 k q hk hq⟩
/-- the costs in the model's cells -/
def SM (M : Wd) (S : SS) : Prop := (∀ a, a < 4096 → M.1 59 a = iI (S.1 a)) ∧ (∀ j, j < S.2.length → M.1 60 j = iI (S.2.getD j 0 : Nat)) ∧ M.1 53 14 = iI (S.2.length : Nat)
section XM
variable {w n : Nat} {L G : Nat → Nat} {M : Wd} {S : SS}
theorem PM.sz (h : PM w n L G M) : 4 ^ n ≤ 4096 := pow4_le h.1.1
theorem mask_cm (h : PM w n L G M) {k q : Nat} (hk : k < n) (hq : q + G k ≤ 5) : M.1 58 (4 * k + q) = iI (cm (L k) q (G k) : Nat) := by
  have := h.1.2.2 k hk
  rw [h.2.2.2.2 k q hk (by omega), if_pos hq]
theorem cm_lt {k q : Nat} (h : LGok L G n) (hk : k < n) (hq : q + G k ≤ 5) : 0 < cm (L k) q (G k) ∧ cm (L k) q (G k) < 33554432 := by
  have := h k hk
  exact cm_lt_f _ this.1 _ (by omega) _ this.2.2 this.2.1 hq
theorem mul4_I (k q : Nat) : ((4 : Int32) * iI (k : Int)) + iI (q : Int) = iI ((4 * k + q : Nat) : Int) := by
  rw [show (4 : Int32) = iI 4 from rfl, iI_mul, iI_add]; rfl
theorem setOf_loop {a : Nat} (h : PM w n L G M) (ha : a < 4 ^ n) (hv : okc w L G n a = true) {ρ : Type} {K : Int32 → Option ρ} : ∀ (r q k : Nat), k + r = n →
    F_X4_setOf_L7 (iI (a : Int)) M K (q + 1 + r) (iI (ocm w L G (dg a) k : Nat)) (iI (k : Int)) = K (iI (ocm w L G (dg a) n : Nat))
  | 0, q, k, hr => by
    have hn := h.1.1
    show (if (M.1 53 9) ≤ iI (k : Int) then K _ else _) = _
    rw [h.2.1, if_le (by omega) (by omega) (by omega) (by omega), if_pos (by omega), show k = n by omega]
  | r + 1, q, k, hr => by
    have hn := h.1.1
    have hs := h.sz
    have hd := dg_lt a k
    have h5 := okb_in (i := k) hv (by omega)
    show (if (M.1 53 9) ≤ iI (k : Int) then K _ else ldi (M.1 58) 24 (((4 : Int32) * iI (k : Int)) + ((iI (a : Int) >>> (((2 : Int32) * iI (k : Int)) &&& 31)) &&& (3 : Int32))) fun v4 => bnd (iI (ocm w L G (dg a) k : Nat) ||| v4) fun v7 => bnd (iI (k : Int) + (1 : Int32)) fun v9 => F_X4_setOf_L7 (iI (a : Int)) M K (q + 1 + r) v7 v9) = _
    rw [h.2.1, if_le (by omega) (by omega) (by omega) (by omega), if_neg (by omega), dg_I (by omega) (by omega), mul4_I, ldi_N (by omega) (by omega), mask_cm h (by omega) h5, bnd_v, bnd_v, iI_or, iL_1, iI_add]
    exact setOf_loop h ha hv r q (k + 1) (by omega)
theorem setOf_I (h : PM w n L G M) {a : Nat} (ha : a < 4 ^ n) (hv : okc w L G n a = true) : F_X4_setOf (iI (a : Int)) M = some (iI (ocm w L G (dg a) n : Nat)) := by
  unfold F_X4_setOf
  obtain ⟨p, hp⟩ := fuelS n (by have := h.1.1; omega)
  rw [bnd_v, h.2.2.1, hp, iL_0, show iI 0 = iI ((0 : Nat) : Int) from rfl]
  exact setOf_loop h ha hv n p 0 (by omega)
theorem isWhole_loop {a : Nat} (h : PM w n L G M) (ha : a < 4 ^ n) {ρ : Type} {K1 K2 : Option ρ} : ∀ (r q k : Nat), k + r = n → okb w L G (dg a) k = true →
    F_X4_isWhole_L7 (iI (a : Int)) M K1 K2 (q + 1 + r) (iI (ocm w L G (dg a) k : Nat)) (iI (k : Int)) = if okc w L G n a = true then K2 else K1
  | 0, q, k, hr, hk => by
    have hn := h.1.1
    show (if (M.1 53 9) ≤ iI (k : Int) then K2 else _) = _
    rw [h.2.1, if_le (by omega) (by omega) (by omega) (by omega), if_pos (by omega)]
    have e : k = n := by omega
    subst e
    exact (if_pos (show okc w L G k a = true from hk)).symm
  | r + 1, q, k, hr, hk => by
    have hn := h.1.1
    have hs := h.sz
    have hd := dg_lt a k
    show (if (M.1 53 9) ≤ iI (k : Int) then K2 else ldi (M.1 58) 24 (((4 : Int32) * iI (k : Int)) + ((iI (a : Int) >>> (((2 : Int32) * iI (k : Int)) &&& 31)) &&& (3 : Int32))) fun v4 => if v4 = 0 then K1 else if (v4 &&& iI (ocm w L G (dg a) k : Nat)) = 0 then bnd (iI (ocm w L G (dg a) k : Nat) ||| v4) fun v9 => bnd (iI (k : Int) + (1 : Int32)) fun v11 => F_X4_isWhole_L7 (iI (a : Int)) M K1 K2 (q + 1 + r) v9 v11 else K1) = _
    rw [h.2.1, if_le (by omega) (by omega) (by omega) (by omega), if_neg (by omega), dg_I (by omega) (by omega), mul4_I, ldi_N (by omega) (by omega), h.2.2.2.2 k _ (by omega) hd]
    have hno : ¬ okb w L G (dg a) (k + 1) = true → okc w L G n a = true → False := fun q1 q2 => q1 (okb_le q2 (by omega))
    by_cases h5 : dg a k + G k ≤ 5
    · have hc := cm_lt (n := n) (L := L) (G := G) h.1.2.2 (k := k) (by omega) h5
      have ho : ocm w L G (dg a) k < 33554432 := ocm_lt h.1.2.1 (fun i hi => h.1.2.2 i (by omega)) (fun i hi => okb_in hk hi)
      have hand : cm (L k) (dg a k) (G k) &&& ocm w L G (dg a) k ≤ cm (L k) (dg a k) (G k) := Nat.and_le_left
      rw [if_pos h5, iL_0, if_eq (by omega) (by omega) (by omega) (by omega), if_neg (by omega), iI_and, if_eq (by omega) (by omega) (by omega) (by omega)]
      by_cases h6 : cm (L k) (dg a k) (G k) &&& ocm w L G (dg a) k = 0
      · rw [if_pos (by omega), bnd_v, bnd_v, iI_or, iL_1, iI_add]
        exact isWhole_loop h ha r q (k + 1) (by omega) (okb_s.mpr ⟨hk, h5, by rw [Nat.and_comm]; exact h6⟩)
      · rw [if_neg (by omega), if_neg]
        exact hno fun q1 => h6 (by rw [Nat.and_comm]; exact (okb_s.mp q1).2.2)
    · rw [if_neg h5, if_pos (show iI ((0 : Nat) : Int) = (0 : Int32) from rfl), if_neg]
      exact hno fun q1 => h5 (okb_s.mp q1).2.1
theorem isWhole_I (h : PM w n L G M) {a : Nat} (ha : a < 4 ^ n) : F_X4_isWhole (iI (a : Int)) M = some (if okc w L G n a = true then iI 1 else iI 0) := by
  unfold F_X4_isWhole
  obtain ⟨p, hp⟩ := fuelS n (by have := h.1.1; omega)
  rw [bnd_v, h.2.2.1, hp]
  refine (isWhole_loop (K1 := some (0 : Int32)) (K2 := some (1 : Int32)) h ha n p 0 (by omega) rfl).trans ?_
  by_cases e : okc w L G n a = true
  · rw [if_pos e, if_pos e]; rfl
  · rw [if_neg e, if_neg e]; rfl
theorem isEnd_I (h : PM w n L G M) {a : Nat} (ha : a < 4 ^ n) : F_X4_isEnd (iI (a : Int)) M = if isE G n a = true then iI 1 else iI 0 := by
  have hs := h.sz
  have hn := h.1.1
  unfold F_X4_isEnd
  rw [h.2.1, iL_0, if_le (by omega) (by omega) (by omega) (by omega)]
  by_cases e : 0 < n
  · have hG := h.1.2.2 0 e
    have h13 : M.1 55 13 = iI (G 0 : Int) := h.2.2.2.1 0 e
    rw [if_neg (by omega), show (3 : Int32) = iI ((3 : Nat) : Int) from rfl, iI_and, h13, iI_add, show (5 : Int32) = iI 5 from rfl, show a &&& 3 = a % 4 from Nat.and_two_pow_sub_one_eq_mod a 2, if_eq (by omega) (by omega) (by omega) (by omega)]
    unfold isE
    rw [dg_0, decide_eq_true e, Bool.true_and]
    by_cases e2 : a % 4 + G 0 = 5
    · rw [if_pos (by omega), decide_eq_true e2, if_pos rfl]; rfl
    · rw [if_neg (by omega), decide_eq_false e2, if_neg (by decide)]
  · rw [if_pos (by omega)]
    unfold isE
    rw [decide_eq_false e, Bool.false_and, if_neg (by decide)]
theorem reaches_I (hE : SM M S) (hn : n ≤ 6) (hS : SB (VV w L G n) S) (hB : CB S) {a : Nat} {d : Int} (ha : VV w L G n a) :
    ∃ M', F_X4_reaches (iI (a : Int)) (iI d) M = some M' ∧ SM M' (vis d S a) ∧ frG M M' := by
  have hs := pow4_le hn
  have hhi := hB.hi hS (fun b hb => hb.1) a
  have hlo := hS.lo a
  have ha1 := ha.1
  unfold F_X4_reaches
  rw [ldi_N (by omega) (by omega), hE.1 a (by omega), iL_m1, if_eq (by omega) (by omega) (by omega) (by omega)]
  by_cases e : S.1 a = -1
  · have hr := hS.room (N := 4 ^ n) (fun b hb => hb.1) ha e
    rw [if_pos e, inb_N (by omega) (by omega), hE.2.2, inb_N (by omega) (by omega), iI_clN (by omega), iI_clN (by omega), iL_1, iI_add]
    refine ⟨_, rfl, ?_, ?_⟩
    · rw [vis_new e]
      refine ⟨fun b hb => ?_, fun j hj => ?_, ?_⟩
      · rw [upI_row_ne (by decide), upI_row_ne (by decide), upI_row]
        show upd (M.1 59) a (iI d) b = iI (if b = a then d else S.1 b)
        by_cases e1 : b = a
        · rw [if_pos e1]; exact if_pos e1
        · rw [if_neg e1, ← hE.1 b hb]; exact if_neg e1
      · have hj2 : j < (S.2 ++ [a]).length := hj
        rw [List.length_append, List.length_singleton] at hj2
        rw [upI_row_ne (by decide), upI_row, upI_row_ne (by decide)]
        show upd (M.1 60) S.2.length (iI a) j = iI ((S.2 ++ [a]).getD j 0 : Nat)
        by_cases e1 : j < S.2.length
        · rw [getD_app e1, ← hE.2.1 j e1]; exact if_neg (by omega)
        · have : j = S.2.length := by omega
          subst this
          rw [getD_last]; exact if_pos rfl
      · rw [upI_row]
        show upd _ 14 _ 14 = iI ((S.2 ++ [a]).length : Nat)
        rw [List.length_append]
        exact if_pos rfl
    · refine ⟨fun c h1 h2 h3 => ?_, fun j hj => ?_, rfl⟩
      · rw [upI_row_ne h3, upI_row_ne h2, upI_row_ne h1]
      · rw [upI_row]
        show upd _ 14 _ j = _
        rw [upI_row_ne (by decide), upI_row_ne (by decide)]
        exact if_neg hj
  · rw [if_neg e, vis_old e]
    exact ⟨M, rfl, hE, frG.rf M⟩
/-- the others' cells -/
def oth (w : Nat) (L G : Nat → Nat) (n u c : Nat) : Nat := ocm w L G (dg u) n &&& (cm (L c) (dg u c) (G c) ^^^ 2147483647)
theorem oth_bit {u c x : Nat} (hw : w < 33554432) (hLG : LGok L G n) (hu : okc w L G n u = true) : (oth w L G n u c).testBit x = true ↔ (ocm w L G (dg u) n).testBit x = true ∧ ¬ (cm (L c) (dg u c) (G c)).testBit x = true := by
  unfold oth
  rw [Nat.testBit_and, Nat.testBit_xor, Bool.and_eq_true]
  have ho := okc_ocm hw hLG hu
  by_cases hx : x < 31
  · have h2 : Nat.testBit 2147483647 x = true := by rw [show 2147483647 = 2 ^ 31 - 1 from rfl, Nat.testBit_two_pow_sub_one]; simp; omega
    rw [h2]
    cases (cm (L c) (dg u c) (G c)).testBit x <;> simp
  · have h1 : (ocm w L G (dg u) n).testBit x = false := Nat.testBit_lt_two_pow (Nat.lt_of_lt_of_le ho (show 2 ^ 25 ≤ 2 ^ x from Nat.pow_le_pow_right (by decide) (by omega)))
    rw [h1]; simp
theorem move_ok {u c q : Nat} (hw : w < 33554432) (hLG : LGok L G n) (hu : okc w L G n u = true) (hc : c < n) (hq : q < 4) : okc w L G n (setd u c q) = true ↔ q + G c ≤ 5 ∧ cm (L c) q (G c) &&& oth w L G n u c = 0 := by
  unfold okc
  rw [setd_dg _ _ _ hq, okb_move hu hc, and0_iff]
  constructor
  · rintro ⟨h1, h2⟩
    exact ⟨h1, fun x hx => h2 x hx.1 ((oth_bit hw hLG hu).mp hx.2)⟩
  · rintro ⟨h1, h2⟩
    exact ⟨h1, fun x hx hh => h2 x ⟨hx, (oth_bit hw hLG hu).mpr hh⟩⟩
/-- a step, by the digit that it makes -/
theorem stp_in {a c q : Nat} {f : Bool} (hq : q < 4) (e : (dg a c : Int) + sgn f = q) : stp w L G n c f a = if okc w L G n (setd a c q) = true then some (setd a c q) else none := by
  cases f with
  | true =>
    have e2 : q = dg a c + 1 := by have : (dg a c : Int) + 1 = q := e; omega
    subst e2
    rw [stp_t, ← stp_up]
    by_cases h : okc w L G n (a + 4 ^ c) = true
    · rw [if_pos ⟨hq, h⟩, if_pos h]
    · rw [if_neg (fun z => h z.2), if_neg h]
  | false =>
    have e2 : (dg a c : Int) + (-1) = q := e
    have e3 : q = dg a c - 1 := by omega
    have e4 : 1 ≤ dg a c := by omega
    subst e3
    rw [stp_f, ← (stp_down e4).1]
    by_cases h : okc w L G n (a - 4 ^ c) = true
    · rw [if_pos ⟨e4, h⟩, if_pos h]
    · rw [if_neg (fun z => h z.2), if_neg h]
theorem stp_out {a c : Nat} {f : Bool} (e : ¬ (0 ≤ (dg a c : Int) + sgn f ∧ (dg a c : Int) + sgn f ≤ 3)) : stp w L G n c f a = none := by
  cases f with
  | true =>
    have e2 : ¬ (0 ≤ (dg a c : Int) + 1 ∧ (dg a c : Int) + 1 ≤ 3) := e
    rw [stp_t, if_neg]
    rintro ⟨h1, -⟩; omega
  | false =>
    have e2 : ¬ (0 ≤ (dg a c : Int) + (-1) ∧ (dg a c : Int) + (-1) ≤ 3) := e
    have := dg_lt a c
    rw [stp_f, if_neg]
    rintro ⟨h1, -⟩; omega
theorem sgn_b (f : Bool) : sgn f = 1 ∨ sgn f = -1 := by cases f; exact Or.inr rfl; exact Or.inl rfl
theorem goes_loop {u c : Nat} {f : Bool} (hu : VV w L G n u) (hc : c < n) {ρ : Type} {K : Wd → Option ρ} : ∀ (r q a : Nat) (M : Wd) (S : SS), r < 1000 → PM w n L G M → SM M S → SB (VV w L G n) S → CB S → u ∈ S.2 → S.1 u + 1 ≤ S.2.length → a < 4 ^ n → a = setd u c (dg a c) →
    ∃ M', F_X4_goes_L40 (iI (u : Int)) (iI (c : Int)) (iI (sgn f)) (iI (oth w L G n u c : Nat)) K (q + 1 + r) (iI ((dg a c : Int) + sgn f)) (iI (r : Int)) M = K M' ∧ SM M' (visl (S.1 u + 1) S (pth w L G n c f r a)) ∧ frG M M'
  | 0, q, a, M, S, hr, h, hE, hS, hB, hm, hl, ha, hau => by
    refine ⟨M, ?_, hE, frG.rf M⟩
    show (if iI ((0 : Nat) : Int) ≤ 0 then K M else _) = K M
    exact if_pos (by decide)
  | r + 1, q, a, M, S, hr, h, hE, hS, hB, hm, hl, ha, hau => by
    have hs := h.sz
    have hd := dg_lt a c
    have hsg := sgn_b f
    have hn := h.1.1
    have hu1 := hu.1
    show ∃ M', (if iI ((r + 1 : Nat) : Int) ≤ 0 then K M else if (F_X4_in (iI ((dg a c : Int) + sgn f)).toInt64 (0 : Int64) (3 : Int64)) = 0 then K M else ldi (M.1 58) 24 (((4 : Int32) * iI (c : Int)) + iI ((dg a c : Int) + sgn f)) fun v16 => if v16 = 0 then K M else ldi (M.1 58) 24 (((4 : Int32) * iI (c : Int)) + iI ((dg a c : Int) + sgn f)) fun v20 => if (v20 &&& iI (oth w L G n u c : Nat)) = 0 then ldi (M.1 59) 4096 (iI (u : Int)) fun v24 => obind (F_X4_reaches ((iI (u : Int) &&& (((3 : Int32) <<< (((2 : Int32) * iI (c : Int)) &&& 31)) ^^^ (-1 : Int32))) ||| (iI ((dg a c : Int) + sgn f) <<< (((2 : Int32) * iI (c : Int)) &&& 31))) (v24 + (1 : Int32)) M) fun M27 => bnd (iI ((dg a c : Int) + sgn f) + iI (sgn f)) fun v29 => bnd (iI ((r + 1 : Nat) : Int) + (-1 : Int32)) fun v31 => F_X4_goes_L40 (iI (u : Int)) (iI (c : Int)) (iI (sgn f)) (iI (oth w L G n u c : Nat)) K (q + 1 + r) v29 v31 M27 else K M) = K M' ∧ _
    rw [iL_0, if_le (by omega) (by omega) (by omega) (by omega), if_neg (by omega), in_I (b := 0) (c := 3) (by omega) (by omega) rfl rfl, i10_eqI]
    by_cases e1 : 0 ≤ (dg a c : Int) + sgn f ∧ (dg a c : Int) + sgn f ≤ 3
    · rw [if_pos e1]
      obtain ⟨p, hp⟩ : ∃ p : Nat, (dg a c : Int) + sgn f = p := ⟨((dg a c : Int) + sgn f).toNat, by omega⟩
      have hp4 : p < 4 := by omega
      have hst := stp_in (w := w) (L := L) (G := G) (n := n) hp4 hp
      have hset : setd a c p = setd u c p := by rw [hau, setd_setd _ _ _ _ (dg_lt _ _)]
      rw [hset] at hst
      have hmv := move_ok h.1.2.1 h.1.2.2 hu.2 hc hp4
      have hpv : pth w L G n c f (r + 1) a = if okc w L G n (setd u c p) = true then setd u c p :: pth w L G n c f r (setd u c p) else [] := by
        show (match stp w L G n c f a with
          | none => []
          | some b => b :: pth w L G n c f r b) = _
        rw [hst]
        by_cases z : okc w L G n (setd u c p) = true
        · rw [if_pos z, if_pos z]
        · rw [if_neg z, if_neg z]
      rw [hpv, hp, mul4_I, ldi_N (by omega) (by omega), h.2.2.2.2 c p hc hp4]
      by_cases e5 : p + G c ≤ 5
      · have hcm := cm_lt h.1.2.2 hc e5
        have hand : cm (L c) p (G c) &&& oth w L G n u c ≤ cm (L c) p (G c) := Nat.and_le_left
        rw [if_pos e5, if_eq (by omega) (by omega) (by omega) (by omega), if_neg (by omega), ldi_N (by omega) (by omega), h.2.2.2.2 c p hc hp4, if_pos e5, iI_and, if_eq (by omega) (by omega) (by omega) (by omega)]
        by_cases e6 : cm (L c) p (G c) &&& oth w L G n u c = 0
        · have hok : okc w L G n (setd u c p) = true := hmv.mpr ⟨e5, e6⟩
          have hv : VV w L G n (setd u c p) := ⟨setd_lt n c u p hu.1 hc hp4, hok⟩
          have hcu := hB.hi hS (fun b hb => hb.1) u
          have hcl := (hS.2.1 u hm).2
          rw [if_pos (by omega), if_pos hok, ldi_N (by omega) (by omega), hE.1 u (by omega), clr_I (by omega) (by omega) hp4, iL_1, iI_add]
          obtain ⟨M1, f1, f2, f3⟩ := reaches_I (w := w) (L := L) (G := G) (n := n) (a := setd u c p) (d := S.1 u + 1) hE hn hS hB hv
          rw [f1, ob_s, bnd_v, bnd_v, iI_add, iI_neg, iI_add]
          have hg := Gvis (S.1 u + 1) S (setd u c p)
          have hun : S.1 u ≠ -1 := by omega
          have hdg : dg (setd u c p) c = p := by rw [dg_setd _ _ _ _ hp4, if_pos rfl]
          obtain ⟨M2, g1, g2, g3⟩ := goes_loop (f := f) hu hc (K := K) r q (setd u c p) M1 (vis (S.1 u + 1) S (setd u c p)) (by omega) (h.fr f3) f2 (SBvis hS (by omega) hv) (CBvis hB hS hl) (hg.2.1 u hm) (by rw [hg.1 u hun]; have := hg.2.2.1; omega) hv.1 (by rw [hdg])
          rw [hg.1 u hun] at g2
          rw [hdg, show ((r : Nat) : Int) = ((r + 1 : Nat) : Int) + -1 by omega] at g1
          exact ⟨M2, g1, g2, f3.tr g3⟩
        · rw [if_neg (by omega), if_neg (fun z => e6 (hmv.mp z).2)]
          exact ⟨M, rfl, hE, frG.rf M⟩
      · rw [if_neg e5, if_pos (show iI ((0 : Nat) : Int) = iI 0 from rfl), if_neg (fun z => e5 (hmv.mp z).1)]
        exact ⟨M, rfl, hE, frG.rf M⟩
    · rw [if_neg e1]
      refine ⟨M, rfl, ?_, frG.rf M⟩
      unfold pth
      rw [stp_out e1]; exact hE
theorem goes_I (h : PM w n L G M) (hE : SM M S) (hS : SB (VV w L G n) S) (hB : CB S) {u c m : Nat} {f : Bool} (hc : c < n) (hm : m < 1000) (hu : u ∈ S.2) (hl : S.1 u + 1 ≤ S.2.length) :
    ∃ M', F_X4_goes (iI (u : Int)) (iI (c : Int)) (iI (sgn f)) (iI (m : Int)) M = some M' ∧ SM M' (visl (S.1 u + 1) S (pth w L G n c f m u)) ∧ frG M M' := by
  have hv := (hS.2.1 u hu).1
  have hs := h.sz
  have hn := h.1.1
  have hv1 := hv.1
  have hd := dg_lt u c
  have ho := okc_ocm h.1.2.1 h.1.2.2 hv.2
  have h5 := okb_in (i := c) hv.2 hc
  have hcm := cm_lt h.1.2.2 hc h5
  unfold F_X4_goes
  obtain ⟨p, hp⟩ := fuelS m (by omega)
  rw [bnd_v, dg_I (by omega) (by omega), setOf_I h hv.1 hv.2, ob_s, mul4_I, ldi_N (by omega) (by omega), mask_cm h hc h5, bnd_v, show (-1 : Int32) = iI (-1) from rfl, iI_andn _ _ (by omega) (by omega), bnd_v, iI_add, hp]
  exact goes_loop (f := f) hv hc (K := fun M33 => some M33) m p u M S hm h hE hS hB hu hl hv.1 (setd_self c u).symm
end XM

/-! ===== texts: the machine of states, the reader ===== -/
def bh (s c : Nat) : Nat :=
  if s = 0 then (if c = 104 ∨ c = 118 then 1 else if c = 119 then 8 else if c = 98 ∨ c = 100 then 11 else if 48 ≤ c ∧ c ≤ 53 then 6 else 12)
  else if s = 1 then (if 48 ≤ c ∧ c ≤ 52 then 2 else 12) else if s = 2 then (if c = 46 then 3 else 12) else if s = 3 then (if 48 ≤ c ∧ c ≤ 51 then 4 else 12) else if s = 4 then (if c = 42 then 5 else 12)
  else if s = 5 then (if 50 ≤ c ∧ c ≤ 51 then 11 else 12) else if s = 6 then (if c = 43 ∨ c = 45 then 7 else 12) else if s = 7 then (if 49 ≤ c ∧ c ≤ 51 then 11 else 12)
  else if s = 8 then (if c = 49 then 9 else if c = 50 then 10 else if 48 ≤ c ∧ c ≤ 57 then 11 else 12) else if s = 9 then (if 48 ≤ c ∧ c ≤ 57 then 11 else if c = 59 then 0 else 12)
  else if s = 10 then (if 48 ≤ c ∧ c ≤ 52 then 11 else if c = 59 then 0 else 12) else if s = 11 then (if c = 59 then 0 else 12) else 12
theorem bh_f : ((List.range 13).all fun s => (List.range 127).all fun c => decide (F_X2_behind (iI (s : Nat)) (iI (c : Nat)) = iI (bh s c : Nat)) && decide (bh s c < 13)) = true := by decide +kernel
theorem bh_I {s c : Nat} (hs : s < 13) (hc : c < 127) : F_X2_behind (iI (s : Int)) (iI (c : Int)) = iI ((bh s c : Nat) : Int) ∧ bh s c < 13 := by
  have := List.all_eq_true.mp (List.all_eq_true.mp bh_f s (List.mem_range.mpr hs)) c (List.mem_range.mpr hc)
  simpa only [Bool.and_eq_true, decide_eq_true_eq] using this
theorem bh_12 (c : Nat) : bh 12 c = 12 := rfl
def erR (tc : Nat → Nat) : Nat → Nat → Nat → Nat
  | 0, _, p => p
  | r + 1, s, p => if bh s (tc p) = 12 then p else erR tc r (bh s (tc p)) (p + 1)
def fiR (tc : Nat → Nat) : Nat → Nat → Nat → Nat
  | 0, s, _ => s
  | r + 1, s, p => fiR tc r (bh s (tc p)) (p + 1)
def erA (tl : Nat) (tc : Nat → Nat) (s p : Nat) : Nat := erR tc (tl - p) s p
def fiA (tl : Nat) (tc : Nat → Nat) (s p : Nat) : Nat := fiR tc (tl - p) s p
section TX
variable {tl : Nat} {tc : Nat → Nat}
theorem erA_e {s : Nat} : erA tl tc s tl = tl := by unfold erA; rw [Nat.sub_self]; rfl
theorem fiA_e {s : Nat} : fiA tl tc s tl = s := by unfold fiA; rw [Nat.sub_self]; rfl
theorem erA_s {s p : Nat} (h : p < tl) : erA tl tc s p = if bh s (tc p) = 12 then p else erA tl tc (bh s (tc p)) (p + 1) := by
  unfold erA
  rw [show tl - p = (tl - (p + 1)) + 1 by omega]
  rfl
theorem fiA_s {s p : Nat} (h : p < tl) : fiA tl tc s p = fiA tl tc (bh s (tc p)) (p + 1) := by
  unfold fiA
  rw [show tl - p = (tl - (p + 1)) + 1 by omega]
  rfl
theorem fiA_12 : ∀ (r p : Nat), p + r = tl → fiA tl tc 12 p = 12
  | 0, p, h => by rw [show p = tl by omega]; exact fiA_e
  | r + 1, p, h => by rw [fiA_s (by omega)]; exact fiA_12 r (p + 1) (by omega)
/-- a step that goes on, or fails -/
theorem ok_s {s p t : Nat} (h : p < tl) (hb : bh s (tc p) = t) (ht : t ≠ 12) : erA tl tc s p = erA tl tc t (p + 1) ∧ fiA tl tc s p = fiA tl tc t (p + 1) := by
  rw [erA_s h, fiA_s h, hb, if_neg ht]
  exact ⟨rfl, rfl⟩
def cplS (s : Nat) : Prop := s = 11 ∨ s = 9 ∨ s = 10
/-- it ends here with an error -/
def Bad (tl : Nat) (tc : Nat → Nat) (s p e : Nat) : Prop := erA tl tc s p = e ∧ ¬ cplS (fiA tl tc s p)
theorem bad_12 {s p : Nat} (h : p < tl) (hb : bh s (tc p) = 12) : Bad tl tc s p p := by
  refine ⟨by rw [erA_s h, if_pos hb], ?_⟩
  rw [fiA_s h, hb, fiA_12 (tl - (p + 1)) (p + 1) (by omega)]
  unfold cplS; omega
theorem bad_e {s : Nat} (h : ¬ cplS s) : Bad tl tc s tl tl := ⟨erA_e, by rw [fiA_e]; exact h⟩
theorem bad_at {s p : Nat} (hp : p ≤ tl) (hs : ¬ cplS s) (h : p < tl → bh s (tc p) = 12) : Bad tl tc s p p := by
  by_cases e : p < tl
  · exact bad_12 e (h e)
  · rw [show p = tl by omega]; exact bad_e hs
theorem bad_s {s p t e : Nat} (h : p < tl) (hb : bh s (tc p) = t) (ht : t ≠ 12) (hbad : Bad tl tc t (p + 1) e) : Bad tl tc s p e := by
  obtain ⟨h1, h2⟩ := ok_s (tc := tc) h hb ht
  exact ⟨by rw [h1]; exact hbad.1, by rw [h2]; exact hbad.2⟩
/-! the class -/
theorem codeAt_I {M : Wd} (hl : M.1 51 1 = iI (tl : Int)) (ht : ∀ i, i < tl → M.1 52 i = iI (tc i : Int)) (h60 : tl ≤ 60) {i : Nat} (hi : i < 100) : F_X2_codeAt (iI (i : Int)) M = some (iI (((if i < tl then tc i else 0) : Nat) : Int)) := by
  unfold F_X2_codeAt
  rw [hl, iL_0, if_lt (by omega) (by omega) (by omega) (by omega), if_neg (by omega), if_le (by omega) (by omega) (by omega) (by omega)]
  by_cases e : i < tl
  · rw [if_neg (by omega), show (60 : Int32) = iI 60 from rfl, if_le (by omega) (by omega) (by omega) (by omega), if_neg (by omega), ldi_N (by omega) (by omega), ht i e, if_pos e]
  · rw [if_pos (by omega), if_neg e]; rfl
theorem erA_le : ∀ (r s p : Nat), p + r = tl → erA tl tc s p ≤ tl
  | 0, s, p, h => by rw [show p = tl by omega, erA_e]; exact Nat.le_refl _
  | r + 1, s, p, h => by
    rw [erA_s (by omega)]
    by_cases e : bh s (tc p) = 12
    · rw [if_pos e]; omega
    · rw [if_neg e]; exact erA_le r _ (p + 1) (by omega)
theorem complete_loop {M : Wd} (hl : M.1 51 1 = iI (tl : Int)) (ht : ∀ i, i < tl → M.1 52 i = iI (tc i : Int)) (h60 : tl ≤ 60) (hc : ∀ i, i < tl → tc i < 127) {ρ : Type} {K1 : Int32 → Option ρ} : ∀ (r q i s : Nat), i + r = tl → s < 13 →
    F_X2_isComplete_L4 M K1 (q + 1 + r) (iI (s : Int)) (iI (i : Int)) = K1 (iI ((fiA tl tc s i : Nat) : Int)) ∧ fiA tl tc s i < 13
  | 0, q, i, s, hr, hs => by
    have e : i = tl := by omega
    rw [e, fiA_e]
    refine ⟨?_, hs⟩
    show (if (M.1 51 1) ≤ iI (tl : Int) then K1 (iI (s : Int)) else _) = _
    rw [hl, if_le (by omega) (by omega) (by omega) (by omega), if_pos (by omega)]
  | r + 1, q, i, s, hr, hs => by
    have hi : i < tl := by omega
    obtain ⟨b1, b2⟩ := bh_I hs (hc i hi)
    rw [fiA_s hi]
    show (if (M.1 51 1) ≤ iI (i : Int) then K1 (iI (s : Int)) else obind (F_X2_codeAt (iI (i : Int)) M) fun v2 => bnd (F_X2_behind (iI (s : Int)) v2) fun v6 => bnd (iI (i : Int) + (1 : Int32)) fun v8 => F_X2_isComplete_L4 M K1 (q + 1 + r) v6 v8) = _ ∧ _
    rw [hl, if_le (by omega) (by omega) (by omega) (by omega), if_neg (by omega), codeAt_I hl ht h60 (by omega), ob_s, if_pos hi, bnd_v, b1, s1_I, bnd_v]
    exact complete_loop hl ht h60 hc r q (i + 1) _ (by omega) b2
theorem complete_I {M : Wd} (hl : M.1 51 1 = iI (tl : Int)) (ht : ∀ i, i < tl → M.1 52 i = iI (tc i : Int)) (h60 : tl ≤ 60) (hc : ∀ i, i < tl → tc i < 127) : (cplS (fiA tl tc 0 0) → F_X2_isComplete M = some (1 : Int32)) ∧ (¬ cplS (fiA tl tc 0 0) → F_X2_isComplete M = some (0 : Int32)) := by
  unfold F_X2_isComplete
  obtain ⟨p, hp⟩ := fuelS tl (by omega)
  rw [hp]
  obtain ⟨h1, h2⟩ := complete_loop hl ht h60 hc (K1 := fun v10 => if v10 = (11 : Int32) then some (1 : Int32) else if v10 = (9 : Int32) then some (1 : Int32) else if v10 = (10 : Int32) then some (1 : Int32) else some (0 : Int32)) tl p 0 0 (by omega) (by decide)
  have h1' : F_X2_isComplete_L4 M (fun v10 => if v10 = (11 : Int32) then some (1 : Int32) else if v10 = (9 : Int32) then some (1 : Int32) else if v10 = (10 : Int32) then some (1 : Int32) else some (0 : Int32)) (p + 1 + tl) (0 : Int32) (0 : Int32) = _ := h1
  rw [h1', show (11 : Int32) = iI 11 from rfl, show (9 : Int32) = iI 9 from rfl, show (10 : Int32) = iI 10 from rfl, if_eq (by omega) (by omega) (by omega) (by omega), if_eq (by omega) (by omega) (by omega) (by omega), if_eq (by omega) (by omega) (by omega) (by omega)]
  unfold cplS
  constructor
  · intro h
    by_cases e1 : fiA tl tc 0 0 = 11
    · rw [if_pos (by omega)]
    · rw [if_neg (by omega)]
      by_cases e2 : fiA tl tc 0 0 = 9
      · rw [if_pos (by omega)]
      · rw [if_neg (by omega), if_pos (by omega)]
  · intro h
    rw [if_neg (by omega), if_neg (by omega), if_neg (by omega)]
/-! the model's reader -/
def Tx (tl : Nat) (tc : Nat → Nat) (M : Wd) : Prop := tl ≤ 60 ∧ (∀ i, i < tl → 33 ≤ tc i ∧ tc i ≤ 126) ∧ M.1 53 2 = iI (tl : Int) ∧ ∀ i, i < tl → M.1 54 i = iI (tc i : Int)
def frR (M N : Wd) : Prop := (∀ c, c ≠ 53 → N.1 c = M.1 c) ∧ (∀ j, j < 15 ∨ 18 < j → N.1 53 j = M.1 53 j) ∧ N.2 = M.2
theorem frR.rf (M : Wd) : frR M M := ⟨fun _ _ => rfl, fun _ _ => rfl, rfl⟩
theorem frR.tr {M N O : Wd} (h : frR M N) (h2 : frR N O) : frR M O := ⟨fun c a => by rw [h2.1 c a, h.1 c a], fun j a => by rw [h2.2.1 j a, h.2.1 j a], by rw [h2.2.2, h.2.2]⟩
theorem frR.up {M : Wd} {j : Nat} {v : Int32} (h : 15 ≤ j ∧ j ≤ 18) : frR M (upI M 53 j v) := ⟨fun c hc => upI_row_ne hc, fun i hi => by rw [upI_at, if_neg (by omega)], rfl⟩
theorem Tx.fr {M N : Wd} (h : Tx tl tc M) (hf : frR M N) : Tx tl tc N := ⟨h.1, h.2.1, by rw [hf.2.1 2 (by omega)]; exact h.2.2.1, fun i hi => by rw [hf.1 54 (by decide)]; exact h.2.2.2 i hi⟩
end TX

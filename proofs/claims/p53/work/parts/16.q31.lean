/-! ===== doing a part ===== -/
section DP
variable {tl : Nat} {tc : Nat → Nat}
/-- the class's text -/
def Tk (tl : Nat) (tc : Nat → Nat) (M : Wd) : Prop := tl ≤ 60 ∧ (∀ i, i < tl → 33 ≤ tc i ∧ tc i ≤ 126) ∧ M.1 51 1 = iI (tl : Int) ∧ ∀ i, i < tl → M.1 52 i = iI (tc i : Int)
theorem Tk.fr {M N : Wd} (h : Tk tl tc M) (h1 : N.1 51 = M.1 51) (h2 : N.1 52 = M.1 52) : Tk tl tc N := ⟨h.1, h.2.1, by rw [h1]; exact h.2.2.1, fun i hi => by rw [h2]; exact h.2.2.2 i hi⟩
theorem code_y {M : Wd} (h : Tk tl tc M) {i : Nat} (hi : i < tl) : F_X2_codeAt (iI (i : Int)) M = some (iI (tc i : Int)) := by
  have h60 := h.1
  rw [codeAt_I h.2.2.1 h.2.2.2 h.1 (by omega), if_pos hi]
theorem digitAt_y {M : Wd} (h : Tk tl tc M) {i : Nat} (hi : i < tl) : F_X2_digitAt (iI (i : Int)) M = some (iI ((tc i : Int) - 48)) := by
  unfold F_X2_digitAt
  rw [code_y h hi, ob_s, show (48 : Int32) = iI 48 from rfl, iI_sub]
theorem signAt_y {M : Wd} (h : Tk tl tc M) {i : Nat} (hi : i < tl) : F_X2_signAt (iI (i : Int)) M = some (iI (if tc i = 45 then -1 else 1)) := by
  have hc := h.2.1 i hi
  unfold F_X2_signAt
  rw [code_y h hi, ob_s, show (45 : Int32) = iI 45 from rfl, if_eq (by omega) (by omega) (by omega) (by omega)]
  by_cases e : tc i = 45
  · rw [if_pos (by omega), if_pos e]; rfl
  · rw [if_neg (by omega), if_neg e]; rfl
theorem among_I {c : Nat} (hc : c < 200) : F_X2_isAmong (iI (c : Int)) (48 : Int32) (57 : Int32) = if 48 ≤ c ∧ c ≤ 57 then iI 1 else iI 0 := by
  unfold F_X2_isAmong
  rw [show (48 : Int32) = iI 48 from rfl, show (57 : Int32) = iI 57 from rfl, if_lt (by omega) (by omega) (by omega) (by omega), if_lt (by omega) (by omega) (by omega) (by omega)]
  by_cases e : 48 ≤ c ∧ c ≤ 57
  · rw [if_neg (by omega), if_neg (by omega), if_pos e]; rfl
  · rw [if_neg e]
    by_cases e2 : c < 48
    · rw [if_pos (by omega)]; rfl
    · rw [if_neg (by omega), if_pos (by omega)]; rfl
theorem nextPart_loop {M : Wd} (h : Tk tl tc M) {p' : Nat} (hp : p' ≤ tl) (h59 : p' < tl → tc p' = 59) {ρ : Type} {K : Int32 → Option ρ} : ∀ (r q p : Nat), p + r = p' → (∀ i, p ≤ i → i < p' → tc i ≠ 59) → F_X2_nextPart_L2 M K (q + 1 + r) (iI (p : Int)) = K (iI (p' : Int))
  | 0, q, p, hr, hn => by
    have h60 := h.1
    have e : p = p' := by omega
    subst e
    show (if (M.1 51 1) ≤ iI (p : Int) then K (iI (p : Int)) else obind (F_X2_codeAt (iI (p : Int)) M) fun v2 => if v2 = (59 : Int32) then K (iI (p : Int)) else _) = _
    rw [h.2.2.1, if_le (by omega) (by omega) (by omega) (by omega)]
    by_cases e2 : p < tl
    · rw [if_neg (by omega), code_y h e2, ob_s, h59 e2]
      exact if_pos rfl
    · rw [if_pos (by omega)]
  | r + 1, q, p, hr, hn => by
    have h60 := h.1
    have hlt : p < tl := by omega
    have hc := h.2.1 p hlt
    have hne := hn p (Nat.le_refl p) (by omega)
    show (if (M.1 51 1) ≤ iI (p : Int) then K (iI (p : Int)) else obind (F_X2_codeAt (iI (p : Int)) M) fun v2 => if v2 = (59 : Int32) then K (iI (p : Int)) else bnd (iI (p : Int) + (1 : Int32)) fun v6 => F_X2_nextPart_L2 M K (q + 1 + r) v6) = _
    rw [h.2.2.1, if_le (by omega) (by omega) (by omega) (by omega), if_neg (by omega), code_y h hlt, ob_s, show (59 : Int32) = iI 59 from rfl, if_eq (by omega) (by omega) (by omega) (by omega), if_neg (by omega), s1_I, bnd_v]
    exact nextPart_loop h hp h59 r q (p + 1) (by omega) (fun i h1 h2 => hn i (by omega) h2)
theorem nextPart_I {M : Wd} (h : Tk tl tc M) {p p' : Nat} (hpp : p ≤ p') (hp : p' ≤ tl) (h59 : p' < tl → tc p' = 59) (hn : ∀ i, p ≤ i → i < p' → tc i ≠ 59) : F_X2_nextPart (iI (p : Int)) M = some (iI ((p' + 1 : Nat) : Int)) := by
  have h60 := h.1
  unfold F_X2_nextPart
  obtain ⟨f, hf⟩ := fuelS (p' - p) (by omega)
  rw [hf, nextPart_loop h hp h59 (K := fun v8 => some (v8 + (1 : Int32))) (p' - p) f p (by omega) hn, s1_I]
def frW (M N : Wd) : Prop := (∀ c, c < 53 ∨ c = 54 ∨ c = 56 ∨ c = 57 ∨ 61 < c → N.1 c = M.1 c) ∧ (∀ j, j ≠ 9 → j ≠ 10 → ¬ (14 ≤ j ∧ j ≤ 20) → N.1 53 j = M.1 53 j) ∧ N.2 = M.2
theorem frW.rf (M : Wd) : frW M M := ⟨fun _ _ => rfl, fun _ _ _ _ => rfl, rfl⟩
theorem frW.tr {M N O : Wd} (h : frW M N) (h2 : frW N O) : frW M O := ⟨fun c a => by rw [h2.1 c a, h.1 c a], fun j a b c => by rw [h2.2.1 j a b c, h.2.1 j a b c], by rw [h2.2.2, h.2.2]⟩
theorem frV.W {M N : Wd} (h : frV M N) : frW M N := ⟨h.1, fun j a b c => h.2.1 j a b (by omega), h.2.2⟩
theorem frR.W {M N : Wd} (h : frR M N) : frW M N := ⟨fun c hc => h.1 c (by omega), fun j a b c => h.2.1 j (by omega), h.2.2⟩
theorem frW.up {M : Wd} {j : Nat} {v : Int32} (h : 14 ≤ j ∧ j ≤ 20) : frW M (upI M 53 j v) := ⟨fun c hc => upI_row_ne (by omega), fun i _ _ hi => by rw [upI_at, if_neg (by omega)], rfl⟩
theorem frW.mo {M N : Wd} (h : frW M N) : frMo M N := ⟨fun c hc => h.1 c (by omega), by rw [h.2.2], by rw [h.2.2]⟩
theorem Tx.frw {M N : Wd} (h : Tx tl tc M) (hf : frW M N) : Tx tl tc N := ⟨h.1, h.2.1, by rw [hf.2.1 2 (by decide) (by decide) (by decide)]; exact h.2.2.1, fun i hi => by rw [hf.1 54 (by omega)]; exact h.2.2.2 i hi⟩
theorem tryPart_u {M : Wd} (h : Tk tl tc M) {p : Nat} (hp : p < tl) : F_X3_tryPart (iI (p : Int)) M =
    if tc p = 98 then obind2 (F_X3_tryTakingBack M) fun v4 M5 => some (v4, M5) else if tc p = 100 then obind2 (F_X3_slidesToDriveOut M) fun v8 M9 => obind2 (F_X3_makePlan v8 M9) fun v12 M13 => some (v12, M13) else if tc p = 104 then obind (F_X2_digitAt (iI ((p + 1 : Nat) : Int)) M) fun v16 => obind (F_X2_digitAt (iI ((p + 3 : Nat) : Int)) M) fun v19 => obind (F_X2_digitAt (iI ((p + 5 : Nat) : Int)) M) fun v22 => obind2 (F_X3_tryEntering v16 v19 v22 M) fun v25 M26 => some (v25, M26) else if tc p = 118 then obind (F_X2_digitAt (iI ((p + 1 : Nat) : Int)) M) fun v29 => obind (F_X2_digitAt (iI ((p + 3 : Nat) : Int)) M) fun v32 => obind (F_X2_digitAt (iI ((p + 5 : Nat) : Int)) M) fun v35 => obind2 (F_X3_tryEntering ((5 : Int32) + v29) v32 v35 M) fun v38 M39 => some (v38, M39) else if tc p = 119 then obind (F_X2_cellAt (iI ((p + 1 : Nat) : Int)) M) fun v42 => obind2 (F_X3_tryWall v42 M) fun v45 M46 => some (v45, M46) else obind (F_X2_digitAt (iI (p : Int)) M) fun v49 => obind (F_X2_signAt (iI ((p + 1 : Nat) : Int)) M) fun v52 => obind (F_X2_digitAt (iI ((p + 2 : Nat) : Int)) M) fun v55 => obind2 (F_X3_trySliding v49 (v52 * v55) M) fun v58 M59 => some (v58, M59) := by
  have hc := h.2.1 p hp
  have eqn : ∀ x : Nat, x < 1000 → (iI (tc p : Int) = iI (x : Int)) = (tc p = x) := fun x hx => by
    rw [iI_eq (by omega) (by omega) (by omega) (by omega)]
    exact propext ⟨fun q => by omega, fun q => by omega⟩
  unfold F_X3_tryPart
  rw [code_y h hp, ob_s, show (98 : Int32) = iI ((98 : Nat) : Int) from rfl, show (100 : Int32) = iI ((100 : Nat) : Int) from rfl, show (104 : Int32) = iI ((104 : Nat) : Int) from rfl, show (118 : Int32) = iI ((118 : Nat) : Int) from rfl, show (119 : Int32) = iI ((119 : Nat) : Int) from rfl]
  simp only [eqn _ (show 98 < 1000 by decide), eqn _ (show 100 < 1000 by decide), eqn _ (show 104 < 1000 by decide), eqn _ (show 118 < 1000 by decide), eqn _ (show 119 < 1000 by decide)]
  rw [show iI (p : Int) + (1 : Int32) = iI ((p + 1 : Nat) : Int) from s1_I p, show (3 : Int32) = iI 3 from rfl, show iI (p : Int) + (5 : Int32) = iI ((p + 5 : Nat) : Int) by rw [show (5 : Int32) = iI 5 from rfl, iI_add]; rfl, show (2 : Int32) = iI 2 from rfl, iI_add, iI_add]
  rfl
end DP

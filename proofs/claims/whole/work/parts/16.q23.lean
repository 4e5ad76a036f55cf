/-! ===== the model: copies, saving; how two calls agree ===== -/
theorem cst_55_56_loop {s o : Nat} (hs : s + 82 ≤ 82) (ho : o + 82 ≤ 410) {M0 : Wd} {ρ : Type} {K : Wd → Option ρ} : ∀ (r i q : Nat) (M : Wd), i + r = 82 → (∀ j, j < i → M.1 56 (o + j) = M0.1 55 (s + j)) → (∀ x, ¬ (o ≤ x ∧ x < o + i) → M.1 56 x = M0.1 56 x) → (∀ c, c ≠ 56 → M.1 c = M0.1 c) → M.2 = M0.2 →
    ∃ M', F_X4_copyState_55_56_L3 (iI (s : Int)) (iI (o : Int)) K (q + 1 + r) (iI (i : Int)) M = K M' ∧ (∀ j, j < 82 → M'.1 56 (o + j) = M0.1 55 (s + j)) ∧ (∀ x, ¬ (o ≤ x ∧ x < o + 82) → M'.1 56 x = M0.1 56 x) ∧ (∀ c, c ≠ 56 → M'.1 c = M0.1 c) ∧ M'.2 = M0.2
  | 0, i, q, M, hr, h1, h2, h3, h4 => by
    refine ⟨M, ?_, fun j hj => h1 j (by omega), fun x hx => h2 x (by omega), h3, h4⟩
    show (if (82 : Int32) ≤ iI (i : Int) then K M else _) = K M
    rw [show (82 : Int32) = iI 82 from rfl, if_le (by omega) (by omega) (by omega) (by omega), if_pos (by omega)]
  | r + 1, i, q, M, hr, h1, h2, h3, h4 => by
    show ∃ M', (if (82 : Int32) ≤ iI (i : Int) then K M else ldi (M.1 55) 82 (iI (s : Int) + iI (i : Int)) fun v2 => inb 410 (iI (o : Int) + iI (i : Int)) <| bnd (iI (i : Int) + (1 : Int32)) fun v6 => F_X4_copyState_55_56_L3 (iI (s : Int)) (iI (o : Int)) K (q + 1 + r) v6 (upI M 56 (iI (o : Int) + iI (i : Int)).toNatClampNeg v2)) = K M' ∧ _
    rw [show (82 : Int32) = iI 82 from rfl, if_le (by omega) (by omega) (by omega) (by omega), if_neg (by omega), iI_add, iI_add, show (s : Int) + (i : Int) = ((s + i : Nat) : Int) from rfl, show (o : Int) + (i : Int) = ((o + i : Nat) : Int) from rfl, ldi_N (by omega) (by omega), inb_N (by omega) (by omega), iI_clN (by omega), s1_I, bnd_v]
    exact cst_55_56_loop hs ho (M0 := M0) (K := K) r (i + 1) q _ (by omega) (fun j hj => by
      rw [upI_at]
      by_cases e : j = i
      · rw [if_pos (by omega), e, h3 55 (by decide)]
      · rw [if_neg (by omega)]; exact h1 j (by omega)) (fun x hx => by
      rw [upI_at, if_neg (by omega)]; exact h2 x (by omega)) (fun c hc => by rw [upI_row_ne hc]; exact h3 c hc) h4
theorem cst_55_56 {s o : Nat} (hs : s + 82 ≤ 82) (ho : o + 82 ≤ 410) (M : Wd) :
    ∃ M', F_X4_copyState_55_56 (iI (s : Int)) (iI (o : Int)) M = some M' ∧ (∀ j, j < 82 → M'.1 56 (o + j) = M.1 55 (s + j)) ∧ (∀ x, ¬ (o ≤ x ∧ x < o + 82) → M'.1 56 x = M.1 56 x) ∧ (∀ c, c ≠ 56 → M'.1 c = M.1 c) ∧ M'.2 = M.2 := by
  unfold F_X4_copyState_55_56
  obtain ⟨p, hp⟩ := fuelS 82 (by decide)
  rw [hp]
  exact cst_55_56_loop hs ho (M0 := M) (K := fun M8 => some M8) 82 0 p M (by omega) (fun j hj => by omega) (fun x _ => rfl) (fun c _ => rfl) rfl
theorem cst_56_55_loop {s o : Nat} (hs : s + 82 ≤ 410) (ho : o + 82 ≤ 82) {M0 : Wd} {ρ : Type} {K : Wd → Option ρ} : ∀ (r i q : Nat) (M : Wd), i + r = 82 → (∀ j, j < i → M.1 55 (o + j) = M0.1 56 (s + j)) → (∀ x, ¬ (o ≤ x ∧ x < o + i) → M.1 55 x = M0.1 55 x) → (∀ c, c ≠ 55 → M.1 c = M0.1 c) → M.2 = M0.2 →
    ∃ M', F_X4_copyState_56_55_L3 (iI (s : Int)) (iI (o : Int)) K (q + 1 + r) (iI (i : Int)) M = K M' ∧ (∀ j, j < 82 → M'.1 55 (o + j) = M0.1 56 (s + j)) ∧ (∀ x, ¬ (o ≤ x ∧ x < o + 82) → M'.1 55 x = M0.1 55 x) ∧ (∀ c, c ≠ 55 → M'.1 c = M0.1 c) ∧ M'.2 = M0.2
  | 0, i, q, M, hr, h1, h2, h3, h4 => by
    refine ⟨M, ?_, fun j hj => h1 j (by omega), fun x hx => h2 x (by omega), h3, h4⟩
    show (if (82 : Int32) ≤ iI (i : Int) then K M else _) = K M
    rw [show (82 : Int32) = iI 82 from rfl, if_le (by omega) (by omega) (by omega) (by omega), if_pos (by omega)]
  | r + 1, i, q, M, hr, h1, h2, h3, h4 => by
    show ∃ M', (if (82 : Int32) ≤ iI (i : Int) then K M else ldi (M.1 56) 410 (iI (s : Int) + iI (i : Int)) fun v2 => inb 82 (iI (o : Int) + iI (i : Int)) <| bnd (iI (i : Int) + (1 : Int32)) fun v6 => F_X4_copyState_56_55_L3 (iI (s : Int)) (iI (o : Int)) K (q + 1 + r) v6 (upI M 55 (iI (o : Int) + iI (i : Int)).toNatClampNeg v2)) = K M' ∧ _
    rw [show (82 : Int32) = iI 82 from rfl, if_le (by omega) (by omega) (by omega) (by omega), if_neg (by omega), iI_add, iI_add, show (s : Int) + (i : Int) = ((s + i : Nat) : Int) from rfl, show (o : Int) + (i : Int) = ((o + i : Nat) : Int) from rfl, ldi_N (by omega) (by omega), inb_N (by omega) (by omega), iI_clN (by omega), s1_I, bnd_v]
    exact cst_56_55_loop hs ho (M0 := M0) (K := K) r (i + 1) q _ (by omega) (fun j hj => by
      rw [upI_at]
      by_cases e : j = i
      · rw [if_pos (by omega), e, h3 56 (by decide)]
      · rw [if_neg (by omega)]; exact h1 j (by omega)) (fun x hx => by
      rw [upI_at, if_neg (by omega)]; exact h2 x (by omega)) (fun c hc => by rw [upI_row_ne hc]; exact h3 c hc) h4
theorem cst_56_55 {s o : Nat} (hs : s + 82 ≤ 410) (ho : o + 82 ≤ 82) (M : Wd) :
    ∃ M', F_X4_copyState_56_55 (iI (s : Int)) (iI (o : Int)) M = some M' ∧ (∀ j, j < 82 → M'.1 55 (o + j) = M.1 56 (s + j)) ∧ (∀ x, ¬ (o ≤ x ∧ x < o + 82) → M'.1 55 x = M.1 55 x) ∧ (∀ c, c ≠ 55 → M'.1 c = M.1 c) ∧ M'.2 = M.2 := by
  unfold F_X4_copyState_56_55
  obtain ⟨p, hp⟩ := fuelS 82 (by decide)
  rw [hp]
  exact cst_56_55_loop hs ho (M0 := M) (K := fun M8 => some M8) 82 0 p M (by omega) (fun j hj => by omega) (fun x _ => rfl) (fun c _ => rfl) rfl
theorem cst_55_57_loop {s o : Nat} (hs : s + 82 ≤ 82) (ho : o + 82 ≤ 82) {M0 : Wd} {ρ : Type} {K : Wd → Option ρ} : ∀ (r i q : Nat) (M : Wd), i + r = 82 → (∀ j, j < i → M.1 57 (o + j) = M0.1 55 (s + j)) → (∀ x, ¬ (o ≤ x ∧ x < o + i) → M.1 57 x = M0.1 57 x) → (∀ c, c ≠ 57 → M.1 c = M0.1 c) → M.2 = M0.2 →
    ∃ M', F_X4_copyState_55_57_L3 (iI (s : Int)) (iI (o : Int)) K (q + 1 + r) (iI (i : Int)) M = K M' ∧ (∀ j, j < 82 → M'.1 57 (o + j) = M0.1 55 (s + j)) ∧ (∀ x, ¬ (o ≤ x ∧ x < o + 82) → M'.1 57 x = M0.1 57 x) ∧ (∀ c, c ≠ 57 → M'.1 c = M0.1 c) ∧ M'.2 = M0.2
  | 0, i, q, M, hr, h1, h2, h3, h4 => by
    refine ⟨M, ?_, fun j hj => h1 j (by omega), fun x hx => h2 x (by omega), h3, h4⟩
    show (if (82 : Int32) ≤ iI (i : Int) then K M else _) = K M
    rw [show (82 : Int32) = iI 82 from rfl, if_le (by omega) (by omega) (by omega) (by omega), if_pos (by omega)]
  | r + 1, i, q, M, hr, h1, h2, h3, h4 => by
    show ∃ M', (if (82 : Int32) ≤ iI (i : Int) then K M else ldi (M.1 55) 82 (iI (s : Int) + iI (i : Int)) fun v2 => inb 82 (iI (o : Int) + iI (i : Int)) <| bnd (iI (i : Int) + (1 : Int32)) fun v6 => F_X4_copyState_55_57_L3 (iI (s : Int)) (iI (o : Int)) K (q + 1 + r) v6 (upI M 57 (iI (o : Int) + iI (i : Int)).toNatClampNeg v2)) = K M' ∧ _
    rw [show (82 : Int32) = iI 82 from rfl, if_le (by omega) (by omega) (by omega) (by omega), if_neg (by omega), iI_add, iI_add, show (s : Int) + (i : Int) = ((s + i : Nat) : Int) from rfl, show (o : Int) + (i : Int) = ((o + i : Nat) : Int) from rfl, ldi_N (by omega) (by omega), inb_N (by omega) (by omega), iI_clN (by omega), s1_I, bnd_v]
    exact cst_55_57_loop hs ho (M0 := M0) (K := K) r (i + 1) q _ (by omega) (fun j hj => by
      rw [upI_at]
      by_cases e : j = i
      · rw [if_pos (by omega), e, h3 55 (by decide)]
      · rw [if_neg (by omega)]; exact h1 j (by omega)) (fun x hx => by
      rw [upI_at, if_neg (by omega)]; exact h2 x (by omega)) (fun c hc => by rw [upI_row_ne hc]; exact h3 c hc) h4
theorem cst_55_57 {s o : Nat} (hs : s + 82 ≤ 82) (ho : o + 82 ≤ 82) (M : Wd) :
    ∃ M', F_X4_copyState_55_57 (iI (s : Int)) (iI (o : Int)) M = some M' ∧ (∀ j, j < 82 → M'.1 57 (o + j) = M.1 55 (s + j)) ∧ (∀ x, ¬ (o ≤ x ∧ x < o + 82) → M'.1 57 x = M.1 57 x) ∧ (∀ c, c ≠ 57 → M'.1 c = M.1 c) ∧ M'.2 = M.2 := by
  unfold F_X4_copyState_55_57
  obtain ⟨p, hp⟩ := fuelS 82 (by decide)
  rw [hp]
  exact cst_55_57_loop hs ho (M0 := M) (K := fun M8 => some M8) 82 0 p M (by omega) (fun j hj => by omega) (fun x _ => rfl) (fun c _ => rfl) rfl
theorem cst_57_55_loop {s o : Nat} (hs : s + 82 ≤ 82) (ho : o + 82 ≤ 82) {M0 : Wd} {ρ : Type} {K : Wd → Option ρ} : ∀ (r i q : Nat) (M : Wd), i + r = 82 → (∀ j, j < i → M.1 55 (o + j) = M0.1 57 (s + j)) → (∀ x, ¬ (o ≤ x ∧ x < o + i) → M.1 55 x = M0.1 55 x) → (∀ c, c ≠ 55 → M.1 c = M0.1 c) → M.2 = M0.2 →
    ∃ M', F_X4_copyState_57_55_L3 (iI (s : Int)) (iI (o : Int)) K (q + 1 + r) (iI (i : Int)) M = K M' ∧ (∀ j, j < 82 → M'.1 55 (o + j) = M0.1 57 (s + j)) ∧ (∀ x, ¬ (o ≤ x ∧ x < o + 82) → M'.1 55 x = M0.1 55 x) ∧ (∀ c, c ≠ 55 → M'.1 c = M0.1 c) ∧ M'.2 = M0.2
  | 0, i, q, M, hr, h1, h2, h3, h4 => by
    refine ⟨M, ?_, fun j hj => h1 j (by omega), fun x hx => h2 x (by omega), h3, h4⟩
    show (if (82 : Int32) ≤ iI (i : Int) then K M else _) = K M
    rw [show (82 : Int32) = iI 82 from rfl, if_le (by omega) (by omega) (by omega) (by omega), if_pos (by omega)]
  | r + 1, i, q, M, hr, h1, h2, h3, h4 => by
    show ∃ M', (if (82 : Int32) ≤ iI (i : Int) then K M else ldi (M.1 57) 82 (iI (s : Int) + iI (i : Int)) fun v2 => inb 82 (iI (o : Int) + iI (i : Int)) <| bnd (iI (i : Int) + (1 : Int32)) fun v6 => F_X4_copyState_57_55_L3 (iI (s : Int)) (iI (o : Int)) K (q + 1 + r) v6 (upI M 55 (iI (o : Int) + iI (i : Int)).toNatClampNeg v2)) = K M' ∧ _
    rw [show (82 : Int32) = iI 82 from rfl, if_le (by omega) (by omega) (by omega) (by omega), if_neg (by omega), iI_add, iI_add, show (s : Int) + (i : Int) = ((s + i : Nat) : Int) from rfl, show (o : Int) + (i : Int) = ((o + i : Nat) : Int) from rfl, ldi_N (by omega) (by omega), inb_N (by omega) (by omega), iI_clN (by omega), s1_I, bnd_v]
    exact cst_57_55_loop hs ho (M0 := M0) (K := K) r (i + 1) q _ (by omega) (fun j hj => by
      rw [upI_at]
      by_cases e : j = i
      · rw [if_pos (by omega), e, h3 57 (by decide)]
      · rw [if_neg (by omega)]; exact h1 j (by omega)) (fun x hx => by
      rw [upI_at, if_neg (by omega)]; exact h2 x (by omega)) (fun c hc => by rw [upI_row_ne hc]; exact h3 c hc) h4
theorem cst_57_55 {s o : Nat} (hs : s + 82 ≤ 82) (ho : o + 82 ≤ 82) (M : Wd) :
    ∃ M', F_X4_copyState_57_55 (iI (s : Int)) (iI (o : Int)) M = some M' ∧ (∀ j, j < 82 → M'.1 55 (o + j) = M.1 57 (s + j)) ∧ (∀ x, ¬ (o ≤ x ∧ x < o + 82) → M'.1 55 x = M.1 55 x) ∧ (∀ c, c ≠ 55 → M'.1 c = M.1 c) ∧ M'.2 = M.2 := by
  unfold F_X4_copyState_57_55
  obtain ⟨p, hp⟩ := fuelS 82 (by decide)
  rw [hp]
  exact cst_57_55_loop hs ho (M0 := M) (K := fun M8 => some M8) 82 0 p M (by omega) (fun j hj => by omega) (fun x _ => rfl) (fun c _ => rfl) rfl
theorem shift_loop {M0 : Wd} {ρ : Type} {K : Wd → Option ρ} : ∀ (r i q : Nat) (M : Wd), i + r = 328 → (∀ j, M.1 56 j = if j < i then M0.1 56 (j + 82) else M0.1 56 j) → (∀ c, c ≠ 56 → M.1 c = M0.1 c) → M.2 = M0.2 →
    ∃ M', F_X4_saves_L10 K (q + 1 + r) (iI (i : Int)) M = K M' ∧ (∀ j, M'.1 56 j = if j < 328 then M0.1 56 (j + 82) else M0.1 56 j) ∧ (∀ c, c ≠ 56 → M'.1 c = M0.1 c) ∧ M'.2 = M0.2
  | 0, i, q, M, hr, h1, h3, h4 => by
    refine ⟨M, ?_, by rw [← show i = 328 by omega]; exact h1, h3, h4⟩
    show (if (328 : Int32) ≤ iI (i : Int) then K M else _) = K M
    rw [show (328 : Int32) = iI 328 from rfl, if_le (by omega) (by omega) (by omega) (by omega), if_pos (by omega)]
  | r + 1, i, q, M, hr, h1, h3, h4 => by
    show ∃ M', (if (328 : Int32) ≤ iI (i : Int) then K M else ldi (M.1 56) 410 (iI (i : Int) + (82 : Int32)) fun v4 => inb 410 (iI (i : Int)) <| bnd (iI (i : Int) + (1 : Int32)) fun v8 => F_X4_saves_L10 K (q + 1 + r) v8 (upI M 56 (iI (i : Int)).toNatClampNeg v4)) = K M' ∧ _
    rw [show (328 : Int32) = iI 328 from rfl, if_le (by omega) (by omega) (by omega) (by omega), if_neg (by omega), show (82 : Int32) = iI 82 from rfl, iI_add, show (i : Int) + 82 = ((i + 82 : Nat) : Int) from rfl, ldi_N (by omega) (by omega), inb_N (by omega) (by omega), iI_clN (by omega), s1_I, bnd_v]
    exact shift_loop (M0 := M0) (K := K) r (i + 1) q _ (by omega) (fun j => by
      rw [upI_at]
      by_cases e : j = i
      · rw [if_pos e, e, if_pos (by omega), h1 (i + 82), if_neg (by omega)]
      · rw [if_neg e, h1 j]
        by_cases e2 : j < i
        · rw [if_pos e2, if_pos (by omega)]
        · rw [if_neg e2, if_neg (by omega)]) (fun c hc => by rw [upI_row_ne hc]; exact h3 c hc) h4
theorem push_m {S : Wst} {M : Wd} {c : Nat} {sv : Nat → Pst} (h1 : pM 55 0 (sN S) M) (hW : WI S) (h6 : M.1 53 7 = (if sF S = true then iI 1 else iI 0)) (h7 : sF S = true → pM 57 0 (sK S) M) (hc : c < 5) (h5 : M.1 53 5 = iI (c : Int)) (hv : ∀ i, i < c → pM 56 (82 * i) (sv i) M) (hw : ∀ i, i < c → pW (sv i)) (hl : M.1 53 2 = iI (sL S : Int)) (ht : ∀ i, i < sL S → M.1 54 i = iI (sT S i : Int)) :
    ∃ M', (obind (F_X4_copyState_55_56 (0 : Int32) ((82 : Int32) * (M.1 53 5)) M) fun M12 => some (upI M12 53 5 ((M12.1 53 5) + (1 : Int32)))) = some M' ∧ MI' (sN S, sK S, sF S, c + 1, (fun i => if i = c then sN S else sv i), sL S, sT S) M' ∧ frMo M M' ∧ M'.1 53 0 = M.1 53 0 := by
  obtain ⟨M1, k1, k2, k3, k4, k5⟩ := cst_55_56 (s := 0) (o := 82 * c) (by omega) (by omega) M
  rw [h5, show (82 : Int32) = iI 82 from rfl, iI_mul, show (82 : Int) * (c : Int) = ((82 * c : Nat) : Int) from rfl, iL_0]
  have k1' : F_X4_copyState_55_56 (iI 0) (iI ((82 * c : Nat) : Int)) M = some M1 := k1
  rw [k1', ob_s, k4 53 (by decide), h5, s1_I]
  refine ⟨_, rfl, ⟨h1.row ?_, ?_, fun z => (h7 z).row ?_, ?_, fun i hi => ?_, ?_, fun i hi => ?_⟩, ⟨fun x hx => ?_, ?_, ?_⟩, ?_⟩
  · rw [upI_row_ne (by decide), k4 55 (by decide)]
  · rw [upI_at, if_neg (by decide), k4 53 (by decide)]; exact h6
  · rw [upI_row_ne (by decide), k4 57 (by decide)]
  · rw [upI_at, if_pos rfl]
  · have hi' : i < c + 1 := hi
    show pM 56 (82 * i) (if i = c then sN S else sv i) _
    by_cases e : i = c
    · rw [if_pos e, e]
      exact h1.copy hW.1 (fun j hj => by rw [upI_row_ne (by decide)]; exact k2 j hj)
    · rw [if_neg e]
      exact (hv i (by omega)).copy (hw i (by omega)) (fun j hj => by rw [upI_row_ne (by decide)]; exact k3 _ (by omega))
  · rw [upI_at, if_neg (by decide), k4 53 (by decide)]; exact hl
  · rw [upI_row_ne (by decide), k4 54 (by decide)]; exact ht i hi
  · rw [upI_row_ne (by omega), k4 x (by omega)]
  · show M1.2.2 = _
    rw [k5]
  · show M1.2.1 62 = _
    rw [k5]
  · rw [upI_at, if_neg (by decide), k4 53 (by decide)]
theorem msave_I {S : Wst} {M : Wd} (h : MI' S M) (hW : WI S) : ∃ M', F_X4_saves M = some M' ∧ MI' (savS S) M' ∧ frMo M M' ∧ M'.1 53 0 = M.1 53 0 := by
  obtain ⟨a1, a2, a3, a4, a5, a6, a7⟩ := h
  have hc := hW.2.2.1
  unfold F_X4_saves
  rw [a4, show (5 : Int32) = iI 5 from rfl, if_eq (by omega) (by omega) (by omega) (by omega)]
  by_cases e : sC S < 5
  · rw [if_neg (by omega), ob_s]
    obtain ⟨M', k1, k2, k3, k4⟩ := push_m a1 hW a2 a3 e a4 a5 hW.2.2.2.1 a6 a7
    refine ⟨M', k1, ?_, k3, k4⟩
    unfold savS
    rw [if_pos e]; exact k2
  · have e5 : sC S = 5 := by omega
    rw [if_pos (by omega)]
    obtain ⟨p, hp⟩ := fuelS 328 (by decide)
    rw [hp]
    obtain ⟨M1, f1, f2, f3, f4⟩ := shift_loop (M0 := M) (K := fun M10 => some (upI M10 53 5 ((M10.1 53 5) - (1 : Int32)))) 328 0 p M (by omega) (fun j => by rw [if_neg (by omega)]) (fun _ _ => rfl) rfl
    have f1' : F_X4_saves_L10 (fun M10 => some (upI M10 53 5 ((M10.1 53 5) - (1 : Int32)))) (p + 1 + 328) (0 : Int32) M = some (upI M1 53 5 (iI 4)) := by
      refine Eq.trans f1 ?_
      show some (upI M1 53 5 ((M1.1 53 5) - (1 : Int32))) = _
      rw [f3 53 (by decide), a4, e5]; rfl
    rw [f1', ob_s]
    have hrow : ∀ x, x ≠ 53 → x ≠ 56 → (upI M1 53 5 (iI 4)).1 x = M.1 x := fun x h1 h2 => by rw [upI_row_ne h1, f3 x h2]
    have h53 : ∀ j, j ≠ 5 → (upI M1 53 5 (iI 4)).1 53 j = M.1 53 j := fun j hj => by rw [upI_at, if_neg hj, f3 53 (by decide)]
    obtain ⟨M', k1, k2, k3, k4⟩ := push_m (S := S) (M := upI M1 53 5 (iI 4)) (c := 4) (sv := fun i => sV S (i + 1)) (a1.row (hrow _ (by decide) (by decide))) hW (by rw [h53 7 (by decide)]; exact a2) (fun z => (a3 z).row (hrow _ (by decide) (by decide))) (by omega) (by rw [upI_at, if_pos rfl]; rfl) (fun i hi => (a5 (i + 1) (by omega)).copy (hW.2.2.2.1 (i + 1) (by omega)) (fun j hj => by
      rw [upI_row_ne (by decide), f2, if_pos (by omega), show 82 * i + j + 82 = 82 * (i + 1) + j by omega])) (fun i hi => hW.2.2.2.1 (i + 1) (by omega)) (by rw [h53 2 (by decide)]; exact a6) (fun i hi => by rw [hrow _ (by decide) (by decide)]; exact a7 i hi)
    refine ⟨M', k1, ?_, (show frMo M (upI M1 53 5 (iI 4)) from ⟨fun x hx => hrow x (by omega) (by omega), by show M1.2.2 = _; rw [f4], by show M1.2.1 62 = _; rw [f4]⟩).tr k3, by rw [k4, h53 0 (by decide)]⟩
    unfold savS
    rw [if_neg e]; exact k2
/-! agreement -/
def Inv (M : Wd) : Prop := ∃ S, WI S ∧ CI S M ∧ MI' S M
/-- a call that may throw -/
def TwoX (FL FM : Wd → Option (Int32 × Wd)) : Prop := ∀ M, Inv M → ∃ k M1 b M2, FL M = some (k, M1) ∧ FM M1 = some (b, M2) ∧ M2.1 53 0 = k ∧ (k = 0 → M2.2.1 62 0 = b.toInt64) ∧ Inv M2
/-- the same, of a truth value -/
def TwoB (FL FM : Wd → Option (Int32 × Wd)) : Prop := ∀ M, Inv M → ∃ k M1 b M2, FL M = some (k, M1) ∧ FM M1 = some (b, M2) ∧ M2.1 53 0 = k ∧ (k = 0 → M2.2.1 62 0 = if b = 0 then (0 : Int64) else (1 : Int64)) ∧ isB b ∧ Inv M2
/-- a call that throws nothing -/
def TwoV {α : Type} (FC FM : Wd → Option (α × Wd)) : Prop := ∀ M, Inv M → ∃ v M1 M2, FC M = some (v, M1) ∧ FM M1 = some (v, M2) ∧ Inv M2
theorem CI.upl {S : Wst} {M : Wd} {c k : Nat} {v : Int64} (h : CI S M) : CI S (upL M c k v) := h
theorem MI'.upl {S : Wst} {M : Wd} {c k : Nat} {v : Int64} (h : MI' S M) : MI' S (upL M c k v) := h
theorem upL_62 {M : Wd} {v : Int64} : (upL M 62 0 v).2.1 62 0 = v := rfl
theorem two_ok {S S' : Wst} {M M1 : Wd} {FL FM : Wd → Option (Int32 × Wd)} {v : Int32} (hM : MI' S M) (hW : WI S') (hL : FL M = some (iI 0, upL M1 62 0 v.toInt64)) (hC : CI S' M1) (hf : frCl M M1) (hFM : ∀ N, MI' S N → ∃ N', FM N = some (v, N') ∧ MI' S' N' ∧ frMo N N' ∧ N'.1 53 0 = iI 0) :
    ∃ k M1 b M2, FL M = some (k, M1) ∧ FM M1 = some (b, M2) ∧ M2.1 53 0 = k ∧ (k = 0 → M2.2.1 62 0 = b.toInt64) ∧ Inv M2 := by
  obtain ⟨N', n1, n2, n3, n4⟩ := hFM (upL M1 62 0 v.toInt64) (hM.frcl hf)
  exact ⟨iI 0, _, v, N', hL, n1, n4, fun _ => by rw [n3.2.2]; exact upL_62, S', hW, CI.frmo (CI.upl hC) hW.2.2.1 n3, n2⟩
theorem two_ex {S : Wst} {M M1 : Wd} {FL FM : Wd → Option (Int32 × Wd)} {k : Int32} (hM : MI' S M) (hW : WI S) (hk : k ≠ 0) (hL : FL M = some (k, M1)) (hC : CI S M1) (hf : frCl M M1) (hFM : ∀ N, MI' S N → ∃ b N', FM N = some (b, N') ∧ MI' S N' ∧ frMo N N' ∧ N'.1 53 0 = k) :
    ∃ k M1 b M2, FL M = some (k, M1) ∧ FM M1 = some (b, M2) ∧ M2.1 53 0 = k ∧ (k = 0 → M2.2.1 62 0 = b.toInt64) ∧ Inv M2 := by
  obtain ⟨b, N', n1, n2, n3, n4⟩ := hFM M1 (hM.frcl hf)
  exact ⟨k, M1, b, N', hL, n1, n4, fun h => absurd h hk, S, hW, hC.frmo hW.2.2.1 n3, n2⟩
theorem two_bok {S S' : Wst} {M M1 : Wd} {FL FM : Wd → Option (Int32 × Wd)} {v : Int32} (hv : isB v) (hM : MI' S M) (hW : WI S') (hL : FL M = some (iI 0, upL M1 62 0 (if v = 0 then (0 : Int64) else (1 : Int64)))) (hC : CI S' M1) (hf : frCl M M1) (hFM : ∀ N, MI' S N → ∃ N', FM N = some (v, N') ∧ MI' S' N' ∧ frMo N N' ∧ N'.1 53 0 = iI 0) :
    ∃ k M1 b M2, FL M = some (k, M1) ∧ FM M1 = some (b, M2) ∧ M2.1 53 0 = k ∧ (k = 0 → M2.2.1 62 0 = if b = 0 then (0 : Int64) else (1 : Int64)) ∧ isB b ∧ Inv M2 := by
  obtain ⟨N', n1, n2, n3, n4⟩ := hFM (upL M1 62 0 (if v = 0 then (0 : Int64) else (1 : Int64))) (hM.frcl hf)
  exact ⟨iI 0, _, v, N', hL, n1, n4, fun _ => by rw [n3.2.2]; exact upL_62, hv, S', hW, CI.frmo (CI.upl hC) hW.2.2.1 n3, n2⟩
theorem two_bex {S : Wst} {M M1 : Wd} {FL FM : Wd → Option (Int32 × Wd)} {k : Int32} (hM : MI' S M) (hW : WI S) (hk : k ≠ 0) (hL : FL M = some (k, M1)) (hC : CI S M1) (hf : frCl M M1) (hFM : ∀ N, MI' S N → ∃ b N', FM N = some (b, N') ∧ isB b ∧ MI' S N' ∧ frMo N N' ∧ N'.1 53 0 = k) :
    ∃ k M1 b M2, FL M = some (k, M1) ∧ FM M1 = some (b, M2) ∧ M2.1 53 0 = k ∧ (k = 0 → M2.2.1 62 0 = if b = 0 then (0 : Int64) else (1 : Int64)) ∧ isB b ∧ Inv M2 := by
  obtain ⟨b, N', n1, n0, n2, n3, n4⟩ := hFM M1 (hM.frcl hf)
  exact ⟨k, M1, b, N', hL, n1, n4, fun h => absurd h hk, n0, S, hW, hC.frmo hW.2.2.1 n3, n2⟩
theorem two_v {α : Type} {S S' : Wst} {M M1 : Wd} {FC FM : Wd → Option (α × Wd)} {v : α} (hM : MI' S M) (hW : WI S') (hL : FC M = some (v, M1)) (hC : CI S' M1) (hf : frCl M M1) (hFM : ∀ N, MI' S N → ∃ N', FM N = some (v, N') ∧ MI' S' N' ∧ frMo N N') :
    ∃ v M1 M2, FC M = some (v, M1) ∧ FM M1 = some (v, M2) ∧ Inv M2 := by
  obtain ⟨N', n1, n2, n3⟩ := hFM M1 (hM.frcl hf)
  exact ⟨v, M1, N', hL, n1, S', hW, hC.frmo hW.2.2.1 n3, n2⟩
theorem refused_0 {M : Wd} : F_X4_refused (iI 0) M = some ((0 : Int32), upI M 53 0 (iI 0)) := rfl
theorem refused_k {M : Wd} {k : Nat} (hk : 0 < k) (hk2 : k < 100) : F_X4_refused (iI (k : Int)) M = some ((1 : Int32), upI M 53 0 (iI (k : Int))) := by
  unfold F_X4_refused
  rw [iL_0, if_le (by omega) (by omega) (by omega) (by omega), if_neg (by omega)]

/-! ===== cells, sets of cells, arrangements that are possible ===== -/
def cix (l q : Nat) : Nat := if l < 5 then 5 * l + q else 5 * q + l - 5
def cm (l p g : Nat) : Nat := if g = 2 then 2 ^ cix l p + 2 ^ cix l (p + 1) else 2 ^ cix l p + 2 ^ cix l (p + 1) + 2 ^ cix l (p + 2)
theorem cellsOf_f : ∀ l, l < 10 → ∀ p, p < 4 → ∀ g, g < 4 → 2 ≤ g → p + g ≤ 5 → F_X3_cellsOf (iI (l : Nat)) (iI (p : Nat)) (iI (g : Nat)) = iI (cm l p g : Nat) := by decide +kernel
theorem bitOf_f : ∀ l, l < 10 → ∀ q, q < 5 → F_X3_bitOf (iI (l : Nat)) (iI (q : Nat)) = iI (2 ^ cix l q : Nat) := by decide +kernel
theorem cm_bit_f0 : ((List.range 10).all fun l => (List.range 4).all fun p => (List.range 4).all fun g => (List.range 25).all fun x => (!(decide (2 ≤ g) && decide (p + g ≤ 5))) || ((cm l p g).testBit x == (List.range 5).any (fun q => decide (p ≤ q) && (decide (q < p + g) && decide (x = cix l q))))) = true := by decide +kernel
theorem cm_bit_f (l : Nat) (h1 : l < 10) (p : Nat) (h2 : p < 4) (g : Nat) (h3 : g < 4) (h4 : 2 ≤ g) (h5 : p + g ≤ 5) (x : Nat) (hx : x < 25) : (cm l p g).testBit x = (List.range 5).any (fun q => decide (p ≤ q) && (decide (q < p + g) && decide (x = cix l q))) := by
  have h := List.all_eq_true.mp (List.all_eq_true.mp (List.all_eq_true.mp (List.all_eq_true.mp cm_bit_f0 l (List.mem_range.mpr h1)) p (List.mem_range.mpr h2)) g (List.mem_range.mpr h3)) x (List.mem_range.mpr hx)
  rw [decide_eq_true h4, decide_eq_true h5] at h
  exact beq_iff_eq.mp h
theorem cm_lt_f0 : ∀ l, l < 10 → ∀ p, p < 4 → ∀ g, g < 4 → 2 ≤ g → p + g ≤ 5 → (decide (0 < cm l p g) && decide (cm l p g < 33554432)) = true := by decide +kernel
theorem cm_lt_f (l : Nat) (h1 : l < 10) (p : Nat) (h2 : p < 4) (g : Nat) (h3 : g < 4) (h4 : 2 ≤ g) (h5 : p + g ≤ 5) : 0 < cm l p g ∧ cm l p g < 33554432 := by
  have := cm_lt_f0 l h1 p h2 g h3 h4 h5
  simpa only [Bool.and_eq_true, decide_eq_true_eq] using this
theorem cix_lt_f : ∀ l, l < 10 → ∀ q, q < 5 → cix l q < 25 := by decide +kernel
theorem cix_inj_f : ∀ l, l < 10 → ∀ q, q < 5 → ∀ r, r < 5 → cix l q = cix l r → q = r := by decide +kernel
theorem orcm_f : ∀ l, l < 10 → ∀ p, p < 4 → (p + 2 ≤ 5 → (0 ||| 2 ^ cix l p) ||| 2 ^ cix l (p + 1) = cm l p 2) ∧ (p + 3 ≤ 5 → ((0 ||| 2 ^ cix l p) ||| 2 ^ cix l (p + 1)) ||| 2 ^ cix l (p + 2) = cm l p 3) := by decide +kernel
/-- lengths are 2 or 3, lanes below 10 -/
def LGok (L G : Nat → Nat) (n : Nat) : Prop := ∀ i, i < n → L i < 10 ∧ 2 ≤ G i ∧ G i < 4
theorem cellsOf_I {l p g : Nat} (h1 : l < 10) (h2 : 2 ≤ g) (h3 : g < 4) (h4 : p + g ≤ 5) : F_X3_cellsOf (iI l) (iI p) (iI g) = iI (cm l p g : Nat) := cellsOf_f l h1 p (by omega) g h3 h2 h4
theorem cm_bit {l p g : Nat} (h1 : l < 10) (h2 : 2 ≤ g) (h3 : g < 4) (h4 : p + g ≤ 5) (x : Nat) : (cm l p g).testBit x = true ↔ ∃ q, q < 5 ∧ p ≤ q ∧ q < p + g ∧ x = cix l q := by
  by_cases hx : x < 25
  · rw [cm_bit_f l h1 p (by omega) g h3 h2 h4 x hx, List.any_eq_true]
    simp only [List.mem_range, Bool.and_eq_true, decide_eq_true_eq]
  · constructor
    · intro h
      have h5 := (cm_lt_f l h1 p (by omega) g h3 h2 h4).2
      rw [Nat.testBit_lt_two_pow (Nat.lt_of_lt_of_le h5 (show 2 ^ 25 ≤ 2 ^ x from Nat.pow_le_pow_right (by decide) (by omega)))] at h
      cases h
    · rintro ⟨q, h5, -, -, rfl⟩
      exact absurd (cix_lt_f l h1 q h5) hx
/-- the cells of walls and the first n cars -/
def ocm (w : Nat) (L G p : Nat → Nat) : Nat → Nat
  | 0 => w
  | i + 1 => ocm w L G p i ||| cm (L i) (p i) (G i)
/-- whether they lie within their lanes, and none upon another -/
def okb (w : Nat) (L G p : Nat → Nat) : Nat → Bool
  | 0 => true
  | i + 1 => okb w L G p i && (decide (p i + G i ≤ 5) && decide (ocm w L G p i &&& cm (L i) (p i) (G i) = 0))
theorem okb_s {w : Nat} {L G p : Nat → Nat} {i : Nat} : okb w L G p (i + 1) = true ↔ okb w L G p i = true ∧ p i + G i ≤ 5 ∧ ocm w L G p i &&& cm (L i) (p i) (G i) = 0 := by
  simp only [okb, Bool.and_eq_true, decide_eq_true_eq]
theorem okb_le {w : Nat} {L G p : Nat → Nat} {i n : Nat} (h : okb w L G p n = true) (hi : i ≤ n) : okb w L G p i = true := by
  induction n with
  | zero => rw [Nat.le_zero.mp hi]; rfl
  | succ n ih =>
    by_cases e : i = n + 1
    · rw [e]; exact h
    · exact ih (okb_s.mp h).1 (by omega)
theorem okb_in {w : Nat} {L G p : Nat → Nat} {i n : Nat} (h : okb w L G p n = true) (hi : i < n) : p i + G i ≤ 5 := (okb_s.mp (okb_le h hi)).2.1
theorem ocm_bit {w : Nat} {L G p : Nat → Nat} {x : Nat} : ∀ {n : Nat}, (ocm w L G p n).testBit x = true ↔ w.testBit x = true ∨ ∃ i, i < n ∧ (cm (L i) (p i) (G i)).testBit x = true
  | 0 => by
    simp only [ocm]
    constructor
    · exact Or.inl
    · rintro (h | ⟨i, hi, -⟩)
      · exact h
      · omega
  | n + 1 => by
    simp only [ocm, Nat.testBit_or, Bool.or_eq_true]
    rw [ocm_bit]
    constructor
    · rintro ((h | ⟨i, hi, h⟩) | h)
      · exact Or.inl h
      · exact Or.inr ⟨i, by omega, h⟩
      · exact Or.inr ⟨n, by omega, h⟩
    · rintro (h | ⟨i, hi, h⟩)
      · exact Or.inl (Or.inl h)
      · by_cases e : i = n
        · subst e; exact Or.inr h
        · exact Or.inl (Or.inr ⟨i, by omega, h⟩)
theorem and0_iff {a b : Nat} : a &&& b = 0 ↔ ∀ x, ¬ (a.testBit x = true ∧ b.testBit x = true) := by
  constructor
  · intro h x hx
    have := congrArg (fun z => Nat.testBit z x) h
    simp only [Nat.testBit_and, Nat.zero_testBit, hx.1, hx.2, Bool.and_self] at this
    cases this
  · intro h
    apply Nat.eq_of_testBit_eq
    intro x
    rw [Nat.testBit_and, Nat.zero_testBit]
    have := h x
    cases h1 : a.testBit x <;> cases h2 : b.testBit x <;> simp_all
/-- pairwise -/
theorem okb_iff {w : Nat} {L G p : Nat → Nat} : ∀ {n : Nat}, okb w L G p n = true ↔ (∀ i, i < n → p i + G i ≤ 5) ∧ (∀ i, i < n → ∀ x, ¬ (w.testBit x = true ∧ (cm (L i) (p i) (G i)).testBit x = true)) ∧ ∀ i j, i < j → j < n → ∀ x, ¬ ((cm (L i) (p i) (G i)).testBit x = true ∧ (cm (L j) (p j) (G j)).testBit x = true)
  | 0 => by
    constructor
    · intro _
      exact ⟨fun i hi => by omega, fun i hi => by omega, fun i j hi hj => by omega⟩
    · intro _; rfl
  | n + 1 => by
    rw [okb_s, okb_iff, and0_iff]
    constructor
    · rintro ⟨⟨h1, h2, h3⟩, h4, h5⟩
      refine ⟨fun i hi => ?_, fun i hi x hx => ?_, fun i j hij hj x hx => ?_⟩
      · by_cases e : i = n
        · subst e; exact h4
        · exact h1 i (by omega)
      · by_cases e : i = n
        · subst e; exact h5 x ⟨ocm_bit.mpr (Or.inl hx.1), hx.2⟩
        · exact h2 i (by omega) x hx
      · by_cases e : j = n
        · subst e; exact h5 x ⟨ocm_bit.mpr (Or.inr ⟨i, hij, hx.1⟩), hx.2⟩
        · exact h3 i j hij (by omega) x hx
    · rintro ⟨h1, h2, h3⟩
      refine ⟨⟨fun i hi => h1 i (by omega), fun i hi => h2 i (by omega), fun i j hij hj => h3 i j hij (by omega)⟩, h1 n (by omega), fun x hx => ?_⟩
      rcases ocm_bit.mp hx.1 with h | ⟨i, hi, h⟩
      · exact h2 n (by omega) x ⟨h, hx.2⟩
      · exact h3 i n hi (by omega) x ⟨h, hx.2⟩
/-- one car's place changed -/
def updN (f : Nat → Nat) (i v : Nat) : Nat → Nat := fun k => if k = i then v else f k
theorem updN_s {f : Nat → Nat} {i v : Nat} : updN f i v i = v := if_pos rfl
theorem updN_n {f : Nat → Nat} {i v k : Nat} (h : k ≠ i) : updN f i v k = f k := if_neg h
theorem okb_move {w : Nat} {L G p : Nat → Nat} {n c q : Nat} (h : okb w L G p n = true) (hc : c < n) : okb w L G (updN p c q) n = true ↔ q + G c ≤ 5 ∧ ∀ x, (cm (L c) q (G c)).testBit x = true → ¬ ((ocm w L G p n).testBit x = true ∧ ¬ (cm (L c) (p c) (G c)).testBit x = true) := by
  rw [okb_iff] at h ⊢
  obtain ⟨h1, h2, h3⟩ := h
  constructor
  · rintro ⟨g1, g2, g3⟩
    refine ⟨by have := g1 c hc; rwa [updN_s] at this, fun x hx hh => ?_⟩
    rcases ocm_bit.mp hh.1 with h5 | ⟨i, hi, h5⟩
    · have := g2 c hc x
      rw [updN_s] at this
      exact this ⟨h5, hx⟩
    · by_cases e : i = c
      · subst e; exact hh.2 h5
      · rcases Nat.lt_or_gt_of_ne e with e1 | e1
        · have := g3 i c e1 hc x
          rw [updN_s, updN_n e] at this
          exact this ⟨h5, hx⟩
        · have := g3 c i e1 hi x
          rw [updN_s, updN_n e] at this
          exact this ⟨hx, h5⟩
  · rintro ⟨g1, g2⟩
    have k2 : ∀ x, w.testBit x = true → ¬ (cm (L c) (p c) (G c)).testBit x = true := fun x hx hh => h2 c hc x ⟨hx, hh⟩
    have k3 : ∀ i, i < n → i ≠ c → ∀ x, (cm (L i) (p i) (G i)).testBit x = true → ¬ (cm (L c) (p c) (G c)).testBit x = true := by
      intro i hi e x hx hh
      rcases Nat.lt_or_gt_of_ne e with e1 | e1
      · exact h3 i c e1 hc x ⟨hx, hh⟩
      · exact h3 c i e1 hi x ⟨hh, hx⟩
    refine ⟨fun i hi => ?_, fun i hi x hx => ?_, fun i j hij hj x hx => ?_⟩
    · by_cases e : i = c
      · subst e; rw [updN_s]; exact g1
      · rw [updN_n e]; exact h1 i hi
    · by_cases e : i = c
      · subst e
        rw [updN_s] at hx
        exact g2 x hx.2 ⟨ocm_bit.mpr (Or.inl hx.1), k2 x hx.1⟩
      · rw [updN_n e] at hx; exact h2 i hi x hx
    · by_cases e : i = c
      · have e2 : j ≠ c := by omega
        subst e
        rw [updN_s, updN_n e2] at hx
        exact g2 x hx.1 ⟨ocm_bit.mpr (Or.inr ⟨j, hj, hx.2⟩), k3 j hj e2 x hx.2⟩
      · by_cases e2 : j = c
        · subst e2
          rw [updN_s, updN_n e] at hx
          exact g2 x hx.2 ⟨ocm_bit.mpr (Or.inr ⟨i, by omega, hx.1⟩), k3 i (by omega) e x hx.1⟩
        · rw [updN_n e, updN_n e2] at hx
          exact h3 i j hij hj x hx
theorem ocm_cong {w : Nat} {L G L' G' p p' : Nat → Nat} : ∀ {n : Nat}, (∀ i, i < n → p i = p' i ∧ L i = L' i ∧ G i = G' i) → ocm w L G p n = ocm w L' G' p' n
  | 0, _ => rfl
  | n + 1, h => by
    simp only [ocm]
    rw [ocm_cong (fun i hi => h i (by omega)), (h n (by omega)).1, (h n (by omega)).2.1, (h n (by omega)).2.2]
theorem okb_cong {w : Nat} {L G L' G' p p' : Nat → Nat} : ∀ {n : Nat}, (∀ i, i < n → p i = p' i ∧ L i = L' i ∧ G i = G' i) → okb w L G p n = okb w L' G' p' n
  | 0, _ => rfl
  | n + 1, h => by
    simp only [okb]
    rw [okb_cong (fun i hi => h i (by omega)), ocm_cong (fun i hi => h i (by omega)), (h n (by omega)).1, (h n (by omega)).2.1, (h n (by omega)).2.2]
theorem lt2p {a b n : Nat} (ha : a < 2 ^ n) (hb : b < 2 ^ n) : a ||| b < 2 ^ n := Nat.or_lt_two_pow ha hb
theorem ocm_lt {w : Nat} {L G p : Nat → Nat} (hw : w < 33554432) : ∀ {n : Nat}, LGok L G n → (∀ i, i < n → p i + G i ≤ 5) → ocm w L G p n < 33554432
  | 0, _, _ => hw
  | n + 1, h, h2 => by
    have hh := h n (by omega)
    have h5 := h2 n (by omega)
    exact lt2p (n := 25) (ocm_lt hw (fun i hi => h i (by omega)) (fun i hi => h2 i (by omega))) (cm_lt_f _ hh.1 _ (by omega) _ hh.2.2 hh.2.1 h5).2

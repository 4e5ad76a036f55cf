/-! ===== fuel: what is settled; the least of those that are out; relaxing around ===== -/
section WB
variable {w n s : Nat} {L G : Nat → Nat}
def IsD (w : Nat) (L G : Nat → Nat) (n s : Nat) (D : Nat → Int) : Prop := W1 w L G n s D ∧ W2 w L G n D
theorem W_leP (hLG : LGok L G n) {D co : Nat → Int} {f : Int} (h : W1 w L G n s D) (h0 : co s = 0) (h2 : ∀ u v g, Edg w L G n u v g → 0 ≤ co u → co u < f → 0 ≤ co v ∧ co v ≤ co u + g) : ∀ (k j : Nat), j ≤ k → (j : Int) ≤ f → ∀ a, D a = (j : Int) → 0 ≤ co a ∧ co a ≤ j
  | 0, j, hj, hf, a, ha => by
    rcases h.2.2.2 a (by omega) with rfl | ⟨u, g, e1, e2, e3⟩
    · omega
    · have := e1.g hLG; omega
  | k + 1, j, hj, hf, a, ha => by
    rcases h.2.2.2 a (by omega) with rfl | ⟨u, g, e1, e2, e3⟩
    · omega
    · have hg := e1.g hLG
      have ih := W_leP hLG h h0 h2 k (D u).toNat (by omega) (by omega) u (by omega)
      have := h2 u a g e1 ih.1 (by omega)
      omega
theorem IsD.eq (hLG : LGok L G n) {D E : Nat → Int} (h : IsD w L G n s D) (h2 : IsD w L G n s E) : D = E := by
  funext a
  have l1 := h.1.1 a
  have l2 := h2.1.1 a
  by_cases ha : 0 ≤ D a
  · have q1 := W_le' hLG h.1 h2.1.2.2.1 h2.2 ha
    have q2 := W_le' hLG h2.1 h.1.2.2.1 h.2 q1.1
    omega
  · by_cases hb : 0 ≤ E a
    · have q2 := W_le' hLG h2.1 h.1.2.2.1 h.2 hb
      omega
    · omega
/-- the least label of those that are out, up to N -/
def LEn (G : Nat → Nat) (n : Nat) (co : Nat → Int) (N : Nat) (r : Int) : Prop :=
  (r = -1 ∧ ∀ a, a < N → isE G n a = true → co a = -1) ∨ (0 ≤ r ∧ (∃ a, a < N ∧ isE G n a = true ∧ co a = r) ∧ ∀ a, a < N → isE G n a = true → 0 ≤ co a → r ≤ co a)
theorem LEn.le {co : Nat → Int} {r : Int} (h : LEn G n co (4 ^ n) r) : LE w L G n co r := h
def lst (e : Bool) (c r : Int) : Int := if e = true ∧ c ≠ -1 ∧ (r = -1 ∨ c < r) then c else r
theorem LEn_step {co : Nat → Int} {i : Nat} {r : Int} (h : LEn G n co i r) (hc : -1 ≤ co i) : LEn G n co (i + 1) (lst (isE G n i) (co i) r) := by
  unfold lst
  by_cases q : isE G n i = true ∧ co i ≠ -1 ∧ (r = -1 ∨ co i < r)
  · rw [if_pos q]
    right
    refine ⟨by omega, ⟨i, by omega, q.1, rfl⟩, fun a ha he hp => ?_⟩
    by_cases e : a = i
    · subst e; omega
    · rcases h with ⟨h1, h2⟩ | ⟨h1, h2, h3⟩
      · have := h2 a (by omega) he; omega
      · have := h3 a (by omega) he hp; omega
  · rw [if_neg q]
    rcases h with ⟨h1, h2⟩ | ⟨h1, ⟨b, b1, b2, b3⟩, h3⟩
    · left
      refine ⟨h1, fun a ha he => ?_⟩
      by_cases e : a = i
      · subst e
        exact Classical.byContradiction fun z => q ⟨he, z, Or.inl h1⟩
      · exact h2 a (by omega) he
    · right
      refine ⟨h1, ⟨b, by omega, b2, b3⟩, fun a ha he hp => ?_⟩
      by_cases e : a = i
      · subst e
        exact Classical.byContradiction fun z => q ⟨he, by omega, Or.inr (by omega)⟩
      · exact h3 a (by omega) he hp
theorem LEn.lo {co : Nat → Int} {N : Nat} {r : Int} (h : LEn G n co N r) : -1 ≤ r := by
  rcases h with ⟨h1, -⟩ | ⟨h1, -⟩ <;> omega
theorem LEn.hi {co : Nat → Int} {N : Nat} {r B : Int} (h : LEn G n co N r) (hB : ∀ a, co a ≤ B) (h0 : -1 ≤ B) : r ≤ B := by
  rcases h with ⟨h1, -⟩ | ⟨h1, ⟨a, -, -, h2⟩, -⟩
  · omega
  · have := hB a; omega
theorem LEn_0 {co : Nat → Int} : LEn G n co 0 (-1) := Or.inl ⟨rfl, fun a ha => by omega⟩
/-- costs in the class's cells -/
def CE (n : Nat) (M : Wd) (co : Nat → Int) : Prop := ∀ a, a < 4 ^ n → M.1 47 a = iI (co a)
theorem costOf_V {M : Wd} (h : EL w n L G M) {co : Nat → Int} (hc : CE n M co) (hv : ∀ a, 0 ≤ co a → VV w L G n a) (hl : ∀ a, -1 ≤ co a) {a : Nat} (ha : a < 4 ^ n) : F_X0_costOf (iI (a : Int)) M = some (iI (co a)) := by
  rw [costOf_I h hc ha]
  by_cases e : okc w L G n a = true
  · rw [if_pos e]
  · rw [if_neg e]
    have h1 : ¬ 0 ≤ co a := fun q => e (hv a q).2
    have := hl a
    rw [show co a = -1 by omega]
theorem leastC_loop {M : Wd} (h : EL w n L G M) {co : Nat → Int} (hc : CE n M co) (hv : ∀ a, 0 ≤ co a → VV w L G n a) (hl : ∀ a, -1 ≤ co a) (hh : ∀ a, co a ≤ 100000) {ρ : Type} {K : Int32 → Option ρ} : ∀ (r q i : Nat) (x : Int), i + r = 4 ^ n → LEn G n co i x →
    ∃ y, F_X0_leastCostOut_L4 M K (q + 1 + r) (iI x) (iI (i : Int)) = K (iI y) ∧ LEn G n co (4 ^ n) y
  | 0, q, i, x, hr, hx => by
    have hs := h.sz
    refine ⟨x, ?_, by rw [← hr]; exact hx⟩
    show (if (M.1 44 7) ≤ iI (i : Int) then K (iI x) else _) = K (iI x)
    rw [h.2.2.1, if_le (by omega) (by omega) (by omega) (by omega), if_pos (by omega)]
  | r + 1, q, i, x, hr, hx => by
    have hs := h.sz
    have x1 := hx.lo
    have x2 := hx.hi hh (by omega)
    have c1 := hl i
    have c2 := hh i
    show ∃ y, (if (M.1 44 7) ≤ iI (i : Int) then K (iI x) else obind (if (F_X0_isOutIn (iI (i : Int)) M) = 0 then some (-1 : Int32) else obind (F_X0_costOf (iI (i : Int)) M) fun v5 => some v5) fun v3 => bnd (if v3 = (-1 : Int32) then iI x else if iI x = (-1 : Int32) then v3 else if iI x ≤ v3 then iI x else v3) fun v9 => bnd (iI (i : Int) + (1 : Int32)) fun v14 => F_X0_leastCostOut_L4 M K (q + 1 + r) v9 v14) = K (iI y) ∧ _
    rw [h.2.2.1, if_le (by omega) (by omega) (by omega) (by omega), if_neg (by omega), isOutIn_I h (by omega), i10_eq0, costOf_V h hc hv hl (by omega)]
    have key : ∀ g : Int32 → Option ρ, (obind (if isE G n i = true then obind (some (iI (co i))) fun v5 => some v5 else some (-1 : Int32)) fun v3 => bnd (if v3 = (-1 : Int32) then iI x else if iI x = (-1 : Int32) then v3 else if iI x ≤ v3 then iI x else v3) g) = g (iI (lst (isE G n i) (co i) x)) := by
      intro g
      unfold lst
      by_cases e : isE G n i = true
      · rw [if_pos e, ob_s, ob_s, bnd_v, iL_m1, if_eq (by omega) (by omega) (by omega) (by omega), if_eq (by omega) (by omega) (by omega) (by omega), if_le (by omega) (by omega) (by omega) (by omega)]
        by_cases e1 : co i = -1
        · rw [if_pos e1, if_neg (fun z => z.2.1 e1)]
        · rw [if_neg e1]
          by_cases e2 : x = -1
          · rw [if_pos e2, if_pos ⟨e, e1, Or.inl e2⟩]
          · rw [if_neg e2]
            by_cases e3 : x ≤ co i
            · rw [if_pos e3, if_neg (fun z => by rcases z.2.2 with z | z <;> omega)]
            · rw [if_neg e3, if_pos ⟨e, e1, Or.inr (by omega)⟩]
      · rw [if_neg e, ob_s, bnd_v, if_pos rfl, if_neg (fun z => e z.1)]
    rw [key, bnd_v, iL_1, iI_add]
    exact leastC_loop h hc hv hl hh r q (i + 1) _ (by omega) (LEn_step hx (hl i))
theorem leastC_I {M : Wd} (h : EL w n L G M) {co : Nat → Int} (hc : CE n M co) (hv : ∀ a, 0 ≤ co a → VV w L G n a) (hl : ∀ a, -1 ≤ co a) (hh : ∀ a, co a ≤ 100000) : ∃ y, F_X0_leastCostOut M = some (iI y) ∧ LE w L G n co y := by
  have hs := h.sz
  unfold F_X0_leastCostOut
  obtain ⟨p, hp⟩ := fuelS (4 ^ n) (by omega)
  rw [hp, iL_m1, iL_0, show iI 0 = iI ((0 : Nat) : Int) from rfl]
  obtain ⟨y, h1, h2⟩ := leastC_loop h hc hv hl hh (K := fun v16 => some v16) (4 ^ n) p 0 (-1) (by omega) LEn_0
  exact ⟨y, h1, h2⟩
/-! relaxing around one arrangement -/
def rlo (co : Nat → Int) (o : Option Nat) (d : Int) : Nat → Int := match o with
  | none => co
  | some v => rlx co v d
def Rx (w : Nat) (L G : Nat → Nat) (n s : Nat) (co0 : Nat → Int) (u : Nat) (D : Nat → Bool → Prop) (co : Nat → Int) : Prop :=
  W1 w L G n s co ∧ BD (4 ^ n) co ∧ Less co0 co ∧ co u = co0 u ∧ ∀ c f v, D c f → stp w L G n c f u = some v → 0 ≤ co v ∧ co v ≤ co0 u + (G c : Int)
theorem Rx.begin {co : Nat → Int} {u : Nat} {D : Nat → Bool → Prop} (h1 : W1 w L G n s co) (h2 : BD (4 ^ n) co) (hD : ∀ c f, ¬ D c f) : Rx w L G n s co u D co := ⟨h1, h2, Less.rf co, rfl, fun c f _ h => absurd h (hD c f)⟩
theorem Rx.weak {co0 co : Nat → Int} {u : Nat} {D D' : Nat → Bool → Prop} (h : Rx w L G n s co0 u D co) (hD : ∀ c f, D' c f → D c f) : Rx w L G n s co0 u D' co := ⟨h.1, h.2.1, h.2.2.1, h.2.2.2.1, fun c f v q => h.2.2.2.2 c f v (hD c f q)⟩
theorem stp_ne {c u v : Nat} {f : Bool} (h : stp w L G n c f u = some v) : v ≠ u := by
  have hp := pow4_pos c
  cases f with
  | true =>
    rw [stp_t] at h
    by_cases e : dg u c + 1 < 4 ∧ okc w L G n (u + 4 ^ c) = true
    · rw [if_pos e] at h; cases h; omega
    · rw [if_neg e] at h; cases h
  | false =>
    rw [stp_f] at h
    by_cases e : 1 ≤ dg u c ∧ okc w L G n (u - 4 ^ c) = true
    · rw [if_pos e] at h
      have := (stp_down e.1).2
      cases h; omega
    · rw [if_neg e] at h; cases h
theorem Rx.step (hLG : LGok L G n) {co0 co : Nat → Int} {u c : Nat} {f : Bool} {D : Nat → Bool → Prop} (h : Rx w L G n s co0 u D co) (hu : 0 ≤ co0 u) (hc : c < n) :
    Rx w L G n s co0 u (fun c' f' => D c' f' ∨ (c' = c ∧ f' = f)) (rlo co (stp w L G n c f u) (co0 u + (G c : Int))) := by
  obtain ⟨h1, h2, h3, h4, h5⟩ := h
  cases e : stp w L G n c f u with
  | none =>
    refine ⟨h1, h2, h3, h4, fun c' f' v hD hv => ?_⟩
    rcases hD with hD | ⟨rfl, rfl⟩
    · exact h5 c' f' v hD hv
    · rw [e] at hv; cases hv
  | some v =>
    have hE : Edg w L G n u v (G c) := ⟨c, f, hc, e, rfl⟩
    have hg := hE.g hLG
    have hv := hE.v (h1.2.1 u (by omega))
    have hco : rlo co (some v) (co0 u + (G c : Int)) = rlx co v (co u + (G c : Int)) := by rw [h4]; rfl
    rw [hco]
    have hle := Less.rlx co v (d := co u + (G c : Int)) (by omega)
    refine ⟨W1_rlx hLG h1 hE (by omega), BD_rlx h2 h1.1 hv.1 hg (by omega), h3.tr hle, ?_, fun c' f' v' hD hv' => ?_⟩
    · rw [rlx_ne (stp_ne e).symm]; exact h4
    · rcases hD with hD | ⟨rfl, rfl⟩
      · have q := h5 c' f' v' hD hv'
        have q2 := hle v' q.1
        omega
      · rw [e] at hv'
        cases hv'
        have := rlx_at (co := co) (v := v) (d := co u + (G c' : Int)) (by omega) (h1.1 v)
        omega
theorem Rx.all {co0 co : Nat → Int} {u : Nat} {D : Nat → Bool → Prop} (h : Rx w L G n s co0 u D co) (hD : ∀ c f, c < n → D c f) {v : Nat} {g : Int} (he : Edg w L G n u v g) : 0 ≤ co v ∧ co v ≤ co0 u + g := by
  obtain ⟨c, f, hc, e, rfl⟩ := he
  exact h.2.2.2.2 c f v (hD c f hc) e
end WB

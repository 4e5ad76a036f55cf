/-! ===== the class's least fuel by rounds ===== -/
section WR
variable {w n s : Nat} {L G : Nat → Nat}
theorem isCheaper_m1 {M : Wd} {d : Int32} : F_X0_isCheaper (iI (-1)) d M = some (iI 0) := by
  unfold F_X0_isCheaper
  rw [exists_m1, ob_s, if_pos (show iI 0 = (0 : Int32) from rfl)]
  rfl
theorem isCheaper_I {M : Wd} (h : EL w n L G M) {co : Nat → Int} (hc : CE n M co) {v : Nat} {d : Int} (hv : VV w L G n v) (h1 : -1 ≤ co v) (h2 : co v ≤ 100000) (d1 : 0 ≤ d) (d2 : d ≤ 100000) : F_X0_isCheaper (iI (v : Int)) (iI d) M = some (if co v = -1 ∨ d < co v then iI 1 else iI 0) := by
  have hs := h.sz
  have hv1 := hv.1
  unfold F_X0_isCheaper
  rw [exists_I h hv.1, ob_s, i10_eq0, if_pos hv.2, ldi_N (by omega) (by omega), ldi_N (by omega) (by omega), hc v hv.1, iL_m1, if_eq (by omega) (by omega) (by omega) (by omega), if_le (by omega) (by omega) (by omega) (by omega)]
  by_cases e : co v = -1
  · rw [if_pos e, if_pos (Or.inl e)]; rfl
  · rw [if_neg e]
    by_cases e2 : co v ≤ d
    · rw [if_pos e2, if_neg (by omega)]; rfl
    · rw [if_neg e2, if_pos (Or.inr (by omega))]; rfl
theorem CE.up1 {M : Wd} {co : Nat → Int} (hc : CE n M co) {v : Nat} {d : Int} : CE n (upI M 47 v (iI d)) (fun k => if k = v then d else co k) := by
  intro a ha
  rw [upI_row]
  show upd (M.1 47) v (iI d) a = iI (if a = v then d else co a)
  by_cases e : a = v
  · rw [if_pos e]; exact if_pos e
  · rw [if_neg e, ← hc a ha]; exact if_neg e
theorem frB_47 {M : Wd} {k : Nat} {v : Int32} : frB M (upI M 47 k v) := ⟨fun c h1 h2 h3 => upI_row_ne h1, fun j hj => by rw [upI_row_ne (by decide)], rfl⟩
theorem CE.fr {M M' : Wd} {co : Nat → Int} (hc : CE n M co) (h : ∀ a, a < 4 ^ n → M'.1 47 a = M.1 47 a) : CE n M' co := fun a ha => by rw [h a ha]; exact hc a ha
theorem ca_step {M : Wd} (h : EL w n L G M) {co : Nat → Int} (hc : CE n M co) (hl : ∀ a, -1 ≤ co a) (hh : ∀ a, co a ≤ 100000) {u c : Nat} {f : Bool} {d x : Int} (hu : u < 4 ^ n) (hcn : c < n) (d1 : 0 ≤ d) (d2 : d ≤ 100000) (hx : x = 0 ∨ x = 1) {ρ : Type} (K : Int32 → Wd → Option ρ) :
    ∃ M' x', (obind (F_X0_behindStep (iI (u : Int)) (iI (c : Int)) (iI (sgn f)) M) fun v12 => obind (F_X0_isCheaper v12 (iI d) M) fun v15 => obind2 (if v15 = 0 then some (iI x, M) else inb 4096 v12 <| some ((1 : Int32), upI M 47 v12.toNatClampNeg (iI d))) K) = K (iI x') M' ∧ CE n M' (rlo co (stp w L G n c f u) d) ∧ (x' = 0 ∨ x' = 1) ∧ (x' = 0 → x = 0 ∧ rlo co (stp w L G n c f u) d = co) ∧ frB M M' := by
  have hs := h.sz
  rw [behindStep_I h hu hcn, ob_s]
  cases e : stp w L G n c f u with
  | none =>
    refine ⟨M, x, ?_, hc, hx, fun q => ⟨q, rfl⟩, frB.rf M⟩
    show (obind (F_X0_isCheaper (iI (-1)) (iI d) M) _) = _
    rw [isCheaper_m1, ob_s, if_pos (show iI 0 = (0 : Int32) from rfl), ob2_s]
  | some v =>
    have hv := stp_ok hu hcn e
    have hv1 := hv.1
    show ∃ M' x', (obind (F_X0_isCheaper (iI (v : Int)) (iI d) M) fun v15 => obind2 (if v15 = 0 then some (iI x, M) else inb 4096 (iI (v : Int)) <| some ((1 : Int32), upI M 47 (iI (v : Int)).toNatClampNeg (iI d))) K) = K (iI x') M' ∧ CE n M' (rlx co v d) ∧ (x' = 0 ∨ x' = 1) ∧ (x' = 0 → x = 0 ∧ rlx co v d = co) ∧ frB M M'
    rw [isCheaper_I h hc hv (hl v) (hh v) d1 d2, ob_s, i10_eq0]
    by_cases e2 : co v = -1 ∨ d < co v
    · rw [if_pos e2, inb_N (by omega) (by omega), iI_clN (by omega), ob2_s, rlx_y e2]
      exact ⟨_, 1, rfl, hc.up1, Or.inr rfl, fun q => by omega, frB_47⟩
    · rw [if_neg e2, ob2_s, rlx_n e2]
      exact ⟨M, x, rfl, hc, hx, fun q => ⟨q, rfl⟩, frB.rf M⟩
theorem around_loop {co0 : Nat → Int} {u : Nat} (hu : VV w L G n u) (hu0 : 0 ≤ co0 u) {ρ : Type} {K : Int32 → Wd → Option ρ} : ∀ (r c q : Nat) (M : Wd) (co : Nat → Int) (x : Int), c + r = n → EL w n L G M → CE n M co → Rx w L G n s co0 u (fun c' _ => c' < c) co → (x = 0 ∨ x = 1) → (x = 0 → co = co0) →
    ∃ M' co' x', F_X0_hasCheapenedAround_L4 (iI (u : Int)) K (q + 1 + r) (iI x) (iI (c : Int)) M = K (iI x') M' ∧ CE n M' co' ∧ Rx w L G n s co0 u (fun c' _ => c' < n) co' ∧ (x' = 0 ∨ x' = 1) ∧ (x' = 0 → co' = co0) ∧ frB M M'
  | 0, c, q, M, co, x, hr, h, hc, hR, hx, hx0 => by
    have hn := h.1.1
    refine ⟨M, co, x, ?_, hc, by rw [show c = n by omega] at hR; exact hR, hx, hx0, frB.rf M⟩
    show (if (M.1 44 6) ≤ iI (c : Int) then K (iI x) M else _) = K (iI x) M
    rw [h.2.1, if_le (by omega) (by omega) (by omega) (by omega), if_pos (by omega)]
  | r + 1, c, q, M, co, x, hr, h, hc, hR, hx, hx0 => by
    have hn := h.1.1
    have hs := h.sz
    have hcn : c < n := by omega
    have hG := h.1.2.2 c hcn
    have hb := hR.2.1.hi hs
    have hbu := hb u
    have hRu := hR.2.2.2.1
    show ∃ M' co' x', (if (M.1 44 6) ≤ iI (c : Int) then K (iI x) M else if (6 : Int32) ≤ iI (c : Int) then K (iI x) M else obind (F_X0_costOf (iI (u : Int)) M) fun v3 => ldi (M.1 45) 6 (iI (c : Int)) fun v6 => bnd (v3 + v6) fun v9 => F_X0_hasCheapenedAround_L35 (iI (u : Int)) (iI (c : Int)) v9 (fun v25 M26 => bnd (iI (c : Int) + (1 : Int32)) fun v27 => F_X0_hasCheapenedAround_L4 (iI (u : Int)) K (q + 1 + r) v25 v27 M26) fuelN (iI x) (-1 : Int32) M) = K (iI x') M' ∧ _
    rw [h.2.1, if_le (by omega) (by omega) (by omega) (by omega), if_neg (by omega), show (6 : Int32) = iI 6 from rfl, if_le (by omega) (by omega) (by omega) (by omega), if_neg (by omega), costOf_V h hc hR.1.2.1 hR.1.1 hu.1, ob_s, ldi_N (by omega) (by omega), h.2.2.2.1 c hcn, iI_add, bnd_v, hRu]
    obtain ⟨p, hp⟩ := fuelS 2 (by decide)
    rw [hp]
    show ∃ M' co' x', (if (1 : Int32) < (-1 : Int32) then _ else obind (F_X0_behindStep (iI (u : Int)) (iI (c : Int)) (iI (sgn false)) M) fun v12 => obind (F_X0_isCheaper v12 (iI (co0 u + (G c : Int))) M) fun v15 => obind2 (if v15 = 0 then some (iI x, M) else inb 4096 v12 <| some ((1 : Int32), upI M 47 v12.toNatClampNeg (iI (co0 u + (G c : Int))))) fun v18 M19 => bnd ((-1 : Int32) + (2 : Int32)) fun v23 => F_X0_hasCheapenedAround_L35 (iI (u : Int)) (iI (c : Int)) (iI (co0 u + (G c : Int))) (fun v25 M26 => bnd (iI (c : Int) + (1 : Int32)) fun v27 => F_X0_hasCheapenedAround_L4 (iI (u : Int)) K (q + 1 + r) v25 v27 M26) (p + 1 + 1) v18 v23 M19) = K (iI x') M' ∧ _
    rw [if_neg (by decide)]
    obtain ⟨M1, x1, f1, f2, f3, f4, f5⟩ := ca_step h hc hR.1.1 (fun a => by have := hb a; omega) (f := false) (d := co0 u + (G c : Int)) hu.1 hcn (by omega) (by omega) hx (fun v18 M19 => bnd ((-1 : Int32) + (2 : Int32)) fun v23 => F_X0_hasCheapenedAround_L35 (iI (u : Int)) (iI (c : Int)) (iI (co0 u + (G c : Int))) (fun v25 M26 => bnd (iI (c : Int) + (1 : Int32)) fun v27 => F_X0_hasCheapenedAround_L4 (iI (u : Int)) K (q + 1 + r) v25 v27 M26) (p + 1 + 1) v18 v23 M19)
    rw [f1, bnd_v]
    have h1 := h.fr f5
    have hR1 := hR.step h.1.2.2 (f := false) hu0 hcn
    have hb1 := hR1.2.1.hi hs
    show ∃ M' co' x', (if (1 : Int32) < (-1 : Int32) + (2 : Int32) then _ else obind (F_X0_behindStep (iI (u : Int)) (iI (c : Int)) (iI (sgn true)) M1) fun v12 => obind (F_X0_isCheaper v12 (iI (co0 u + (G c : Int))) M1) fun v15 => obind2 (if v15 = 0 then some (iI x1, M1) else inb 4096 v12 <| some ((1 : Int32), upI M1 47 v12.toNatClampNeg (iI (co0 u + (G c : Int))))) fun v18 M19 => bnd ((-1 : Int32) + (2 : Int32) + (2 : Int32)) fun v23 => F_X0_hasCheapenedAround_L35 (iI (u : Int)) (iI (c : Int)) (iI (co0 u + (G c : Int))) (fun v25 M26 => bnd (iI (c : Int) + (1 : Int32)) fun v27 => F_X0_hasCheapenedAround_L4 (iI (u : Int)) K (q + 1 + r) v25 v27 M26) (p + 1) v18 v23 M19) = K (iI x') M' ∧ _
    rw [if_neg (by decide)]
    obtain ⟨M2, x2, g1, g2, g3, g4, g5⟩ := ca_step h1 f2 hR1.1.1 (fun a => by have := hb1 a; omega) (f := true) (d := co0 u + (G c : Int)) hu.1 hcn (by omega) (by omega) f3 (fun v18 M19 => bnd ((-1 : Int32) + (2 : Int32) + (2 : Int32)) fun v23 => F_X0_hasCheapenedAround_L35 (iI (u : Int)) (iI (c : Int)) (iI (co0 u + (G c : Int))) (fun v25 M26 => bnd (iI (c : Int) + (1 : Int32)) fun v27 => F_X0_hasCheapenedAround_L4 (iI (u : Int)) K (q + 1 + r) v25 v27 M26) (p + 1) v18 v23 M19)
    rw [g1, bnd_v]
    have h2 := h1.fr g5
    have hR2 := (hR1.step h.1.2.2 (f := true) hu0 hcn).weak (D' := fun c' _ => c' < c + 1) (fun c' f' hc' => by
      by_cases e : c' = c
      · cases f' with
        | true => exact Or.inr ⟨e, rfl⟩
        | false => exact Or.inl (Or.inr ⟨e, rfl⟩)
      · exact Or.inl (Or.inl (by omega)))
    show ∃ M' co' x', (if (1 : Int32) < (-1 : Int32) + (2 : Int32) + (2 : Int32) then (bnd (iI (c : Int) + (1 : Int32)) fun v27 => F_X0_hasCheapenedAround_L4 (iI (u : Int)) K (q + 1 + r) (iI x2) v27 M2) else _) = K (iI x') M' ∧ _
    rw [if_pos (by decide), bnd_v, iL_1, iI_add]
    obtain ⟨M3, co3, x3, k1, k2, k3, k4, k5, k6⟩ := around_loop hu hu0 (K := K) r (c + 1) q M2 _ x2 (by omega) h2 g2 hR2 g3 (fun q0 => by
      have a1 := g4 q0
      have a2 := f4 a1.1
      rw [a1.2, a2.2]; exact hx0 a2.1)
    exact ⟨M3, co3, x3, k1, k2, k3, k4, k5, (f5.tr g5).tr k6⟩
theorem around_I {M : Wd} {co : Nat → Int} {u : Nat} (h : EL w n L G M) (hc : CE n M co) (h1 : W1 w L G n s co) (h2 : BD (4 ^ n) co) (hu0 : 0 ≤ co u) :
    ∃ M' co' x', F_X0_hasCheapenedAround (iI (u : Int)) M = some (iI x', M') ∧ CE n M' co' ∧ Rx w L G n s co u (fun c' _ => c' < n) co' ∧ (x' = 0 ∨ x' = 1) ∧ (x' = 0 → co' = co) ∧ frB M M' := by
  have hn := h.1.1
  unfold F_X0_hasCheapenedAround
  obtain ⟨p, hp⟩ := fuelS n (by omega)
  rw [hp]
  obtain ⟨M', co', x', k1, k2, k3, k4, k5, k6⟩ := around_loop (h1.2.1 u hu0) hu0 (K := fun v29 M30 => chB v29 <| some (v29, M30)) n 0 p M co 0 (by omega) h hc (Rx.begin h1 h2 (fun c f q => by omega)) (Or.inl rfl) (fun _ => rfl)
  refine ⟨M', co', x', ?_, k2, k3, k4, k5, k6⟩
  refine k1.trans ?_
  rcases k4 with rfl | rfl <;> rfl
/-- in a round, behind i arrangements -/
def RI (w : Nat) (L G : Nat → Nat) (n s : Nat) (co0 : Nat → Int) (i : Nat) (co : Nat → Int) (x : Int) : Prop :=
  W1 w L G n s co ∧ BD (4 ^ n) co ∧ Less co0 co ∧ (∀ u, u < i → 0 ≤ co0 u → ∀ v g, Edg w L G n u v g → 0 ≤ co v ∧ co v ≤ co0 u + g) ∧ (x = 0 ∨ x = 1) ∧ (x = 0 → co = co0)
theorem round_loop {co0 : Nat → Int} {kk : Int32} {ρ : Type} {K : Int32 → Wd → Option ρ} : ∀ (r i q : Nat) (M : Wd) (co : Nat → Int) (x : Int), i + r = 4 ^ n → EL w n L G M → CE n M co → RI w L G n s co0 i co x →
    ∃ M' co' x', F_X0_fuelByRounds_L32 kk K (q + 1 + r) (iI x) (iI (i : Int)) M = K (iI x') M' ∧ CE n M' co' ∧ RI w L G n s co0 (4 ^ n) co' x' ∧ frB M M'
  | 0, i, q, M, co, x, hr, h, hc, hR => by
    have hs := h.sz
    refine ⟨M, co, x, ?_, hc, by rw [← hr]; exact hR, frB.rf M⟩
    show (if (M.1 44 7) ≤ iI (i : Int) then K (iI x) M else _) = K (iI x) M
    rw [h.2.2.1, if_le (by omega) (by omega) (by omega) (by omega), if_pos (by omega)]
  | r + 1, i, q, M, co, x, hr, h, hc, hR => by
    have hs := h.sz
    obtain ⟨r1, r2, r3, r4, r5, r6⟩ := hR
    have hbi := r2.hi hs i
    have hli := r1.1 i
    show ∃ M' co' x', (if (M.1 44 7) ≤ iI (i : Int) then K (iI x) M else obind (F_X0_costOf (iI (i : Int)) M) fun v8 => obind2 (if v8 = (-1 : Int32) then some (iI x, M) else obind2 (F_X0_hasCheapenedAround (iI (i : Int)) M) fun v14 M15 => if v14 = 0 then some (iI x, M15) else some ((1 : Int32), M15)) fun v11 M12 => bnd (iI (i : Int) + (1 : Int32)) fun v20 => F_X0_fuelByRounds_L32 kk K (q + 1 + r) v11 v20 M12) = K (iI x') M' ∧ _
    rw [h.2.2.1, if_le (by omega) (by omega) (by omega) (by omega), if_neg (by omega), costOf_V h hc r1.2.1 r1.1 (by omega), ob_s, iL_m1, if_eq (by omega) (by omega) (by omega) (by omega)]
    by_cases e : co i = -1
    · rw [if_pos e, ob2_s, bnd_v, iL_1, iI_add]
      obtain ⟨M3, co3, x3, k1, k2, k3, k4⟩ := round_loop (kk := kk) (K := K) r (i + 1) q M co x (by omega) h hc ⟨r1, r2, r3, fun u hu hu0 v g he => by
        by_cases e2 : u = i
        · subst e2
          have := r3 u hu0
          omega
        · exact r4 u (by omega) hu0 v g he, r5, r6⟩
      exact ⟨M3, co3, x3, k1, k2, k3, k4⟩
    · rw [if_neg e]
      obtain ⟨M1, co1, x1, f1, f2, f3, f4, f5, f6⟩ := around_I h hc r1 r2 (u := i) (by omega)
      rw [f1, ob2_s]
      have hR1 : ∀ x'', (x'' = 0 ∨ x'' = 1) → (x'' = 0 → co1 = co0) → RI w L G n s co0 (i + 1) co1 x'' := fun x'' z1 z2 => ⟨f3.1, f3.2.1, r3.tr f3.2.2.1, fun u hu hu0 v g he => by
        by_cases e2 : u = i
        · subst e2
          have q1 := f3.all (fun c f hc => hc) he
          have q2 := r3 u hu0
          omega
        · have q1 := r4 u (by omega) hu0 v g he
          have q2 := f3.2.2.1 v q1.1
          omega, z1, z2⟩
      rcases f4 with f4 | f4
      · have e3 : co1 = co := f5 f4
        subst f4
        rw [if_pos (show iI 0 = (0 : Int32) from rfl), ob2_s, bnd_v, iL_1, iI_add]
        obtain ⟨M3, co3, x3, k1, k2, k3, k4⟩ := round_loop (kk := kk) (K := K) r (i + 1) q M1 co1 x (by omega) (h.fr f6) f2 (hR1 x r5 (fun z => by rw [e3]; exact r6 z))
        exact ⟨M3, co3, x3, k1, k2, k3, f6.tr k4⟩
      · subst f4
        rw [if_neg (by decide), ob2_s, bnd_v, iL_1, iI_add]
        obtain ⟨M3, co3, x3, k1, k2, k3, k4⟩ := round_loop (kk := kk) (K := K) r (i + 1) q M1 co1 1 (by omega) (h.fr f6) f2 (hR1 1 (Or.inr rfl) (fun z => by omega))
        exact ⟨M3, co3, x3, k1, k2, k3, f6.tr k4⟩
/-! how many labels are final -/
theorem ct_strict {p q : Nat → Bool} {N a : Nat} (h : ∀ k, k < N → p k = true → q k = true) (ha : a < N) (hp : p a = false) (hq : q a = true) : fb_ct p N + 1 ≤ fb_ct q N := by
  have h1 := fb_ct_upd p true ha
  rw [hp, if_neg (by decide), if_pos rfl] at h1
  have h2 : fb_ct (fun k => if k = a then true else p k) N ≤ fb_ct q N := fb_ct_sub fun k hk hh => by
    by_cases e : k = a
    · rw [e]; exact hq
    · have hh' : (if k = a then true else p k) = true := hh
      rw [if_neg e] at hh'; exact h k hk hh'
  omega
def FN (D co : Nat → Int) (a : Nat) : Bool := decide (0 ≤ D a) && decide (co a = D a)
theorem FN_iff {D co : Nat → Int} {a : Nat} : FN D co a = true ↔ 0 ≤ D a ∧ co a = D a := by
  unfold FN
  rw [Bool.and_eq_true, decide_eq_true_eq, decide_eq_true_eq]
theorem least_ex {D : Nat → Int} {p : Nat → Prop} (hp : ∀ a, p a → 0 ≤ D a) : ∀ (k a : Nat), p a → D a ≤ k → ∃ b, p b ∧ ∀ c, p c → D b ≤ D c
  | 0, a, ha, hk => ⟨a, ha, fun c hc => by have := hp c hc; omega⟩
  | k + 1, a, ha, hk => by
    by_cases e : ∃ c, p c ∧ D c < D a
    · obtain ⟨c, h1, h2⟩ := e
      exact least_ex hp k c h1 (by omega)
    · exact ⟨a, ha, fun c hc => by
        have : ¬ D c < D a := fun z => e ⟨c, hc, z⟩
        omega⟩
theorem FN_step (hLG : LGok L G n) {D co0 co1 : Nat → Int} (hD : IsD w L G n s D) (h0 : W1 w L G n s co0) (h1 : W1 w L G n s co1) (hl : Less co0 co1) (he : ∀ u, u < 4 ^ n → 0 ≤ co0 u → ∀ v g, Edg w L G n u v g → 0 ≤ co1 v ∧ co1 v ≤ co0 u + g) {k : Nat}
    (h : (∀ a, 0 ≤ D a → co0 a = D a) ∨ k + 1 ≤ fb_ct (FN D co0) (4 ^ n)) : (∀ a, 0 ≤ D a → co1 a = D a) ∨ k + 2 ≤ fb_ct (FN D co1) (4 ^ n) := by
  have keep : ∀ a, 0 ≤ D a → co0 a = D a → co1 a = D a := fun a ha e => by
    have q1 := hl a (by omega)
    have q2 := W_le' hLG h1 hD.1.2.2.1 hD.2 q1.1
    omega
  by_cases hall : ∀ a, 0 ≤ D a → co0 a = D a
  · exact Or.inl fun a ha => keep a ha (hall a ha)
  · right
    have hk : k + 1 ≤ fb_ct (FN D co0) (4 ^ n) := h.resolve_left hall
    obtain ⟨a0, ha0⟩ : ∃ a, 0 ≤ D a ∧ co0 a ≠ D a := Classical.byContradiction fun z => hall fun a ha => Classical.byContradiction fun y => z ⟨a, ha, y⟩
    obtain ⟨a, ⟨a1, a2⟩, a3⟩ := least_ex (D := D) (p := fun a => 0 ≤ D a ∧ co0 a ≠ D a) (fun a h => h.1) (D a0).toNat a0 ha0 (by omega)
    have hav := hD.1.2.1 a a1
    rcases hD.1.2.2.2 a a1 with e | ⟨u, g, e1, e2, e3⟩
    · subst e
      exact absurd (h0.2.2.1.trans hD.1.2.2.1.symm) a2
    · have hg := e1.g hLG
      have hu : co0 u = D u := Classical.byContradiction fun z => by have := a3 u ⟨e2, z⟩; omega
      have q := he u (hD.1.2.1 u e2).1 (by omega) a g e1
      have q2 := W_le' hLG h1 hD.1.2.2.1 hD.2 q.1
      have := ct_strict (p := FN D co0) (q := FN D co1) (N := 4 ^ n) (a := a) (fun b _ hb => by
        rw [FN_iff] at hb ⊢
        exact ⟨hb.1, keep b hb.1 hb.2⟩) hav.1 (Bool.eq_false_iff.mpr fun z => a2 (FN_iff.mp z).2) (FN_iff.mpr ⟨a1, by omega⟩)
      omega
theorem rounds_loop {ρ : Type} {K : Wd → Option ρ} : ∀ (r k q : Nat) (M : Wd) (co : Nat → Int) (x : Int), k + r = 4097 → EL w n L G M → CE n M co → W1 w L G n s co → BD (4 ^ n) co → (x = 0 ∨ x = 1) → (x = 0 → W2 w L G n co) → (∀ D, IsD w L G n s D → (∀ a, 0 ≤ D a → co a = D a) ∨ k + 1 ≤ fb_ct (FN D co) (4 ^ n)) →
    ∃ M' co', F_X0_fuelByRounds_L17 K (q + 1 + r) (iI x) (iI (k : Int)) M = K M' ∧ CE n M' co' ∧ W1 w L G n s co' ∧ BD (4 ^ n) co' ∧ (∀ D, IsD w L G n s D → co' = D) ∧ frB M M'
  | 0, k, q, M, co, x, hr, h, hc, h1, h2, hx, hx0, hF => by
    have hs := h.sz
    refine ⟨M, co, ?_, hc, h1, h2, fun D hD => ?_, frB.rf M⟩
    · show (if (4096 : Int32) < iI (k : Int) then K M else _) = K M
      rw [show (4096 : Int32) = iI 4096 from rfl, if_lt (by omega) (by omega) (by omega) (by omega), if_pos (by omega)]
    · have hle := fb_ct_le (FN D co) (4 ^ n)
      have hall := (hF D hD).resolve_right (by omega)
      funext a
      by_cases ha : 0 ≤ D a
      · exact hall a ha
      · have l1 := h1.1 a
        have l2 := hD.1.1 a
        by_cases hb : 0 ≤ co a
        · have := W_le' h.1.2.2 h1 hD.1.2.2.1 hD.2 hb
          omega
        · omega
  | r + 1, k, q, M, co, x, hr, h, hc, h1, h2, hx, hx0, hF => by
    have hs := h.sz
    show ∃ M' co', (if (4096 : Int32) < iI (k : Int) then K M else if iI x = 0 then K M else F_X0_fuelByRounds_L32 (iI (k : Int)) (fun v22 M23 => bnd (iI (k : Int) + (1 : Int32)) fun v24 => F_X0_fuelByRounds_L17 K (q + 1 + r) v22 v24 M23) fuelN (0 : Int32) (0 : Int32) M) = K M' ∧ _
    rw [show (4096 : Int32) = iI 4096 from rfl, if_lt (by omega) (by omega) (by omega) (by omega), if_neg (by omega)]
    rcases hx with rfl | rfl
    · rw [if_pos (show iI 0 = (0 : Int32) from rfl)]
      exact ⟨M, co, rfl, hc, h1, h2, fun D hD => IsD.eq h.1.2.2 ⟨h1, hx0 rfl⟩ hD, frB.rf M⟩
    · rw [if_neg (by decide)]
      obtain ⟨p, hp⟩ := fuelS (4 ^ n) (by omega)
      rw [hp]
      obtain ⟨M1, co1, x1, f1, f2, f3, f4⟩ := round_loop (co0 := co) (kk := iI (k : Int)) (K := fun v22 M23 => bnd (iI (k : Int) + (1 : Int32)) fun v24 => F_X0_fuelByRounds_L17 K (q + 1 + r) v22 v24 M23) (4 ^ n) 0 p M co 0 (by omega) h hc ⟨h1, h2, Less.rf co, fun u hu => by omega, Or.inl rfl, fun _ => rfl⟩
      show ∃ M' co', (F_X0_fuelByRounds_L32 (iI (k : Int)) (fun v22 M23 => bnd (iI (k : Int) + (1 : Int32)) fun v24 => F_X0_fuelByRounds_L17 K (q + 1 + r) v22 v24 M23) (p + 1 + 4 ^ n) (iI 0) (iI ((0 : Nat) : Int)) M) = K M' ∧ _
      rw [f1, bnd_v, iL_1, iI_add]
      obtain ⟨r1, r2, r3, r4, r5, r6⟩ := f3
      obtain ⟨M2, co2, k1, k2, k3, k4, k5, k6⟩ := rounds_loop (K := K) r (k + 1) q M1 co1 x1 (by omega) (h.fr f4) f2 r1 r2 r5 (fun z => by
        have e := r6 z
        intro u v g he hu
        rw [e] at hu ⊢
        have := r4 u (h1.2.1 u hu).1 hu v g he
        rw [e] at this
        exact this) (fun D hD => FN_step h.1.2.2 hD h1 r1 r3 (fun u hu hu0 v g he => r4 u hu hu0 v g he) (hF D hD))
      exact ⟨M2, co2, k1, k2, k3, k4, k5, f4.tr k6⟩
theorem rounds_I {M : Wd} (h : EL w n L G M) (hst : M.1 44 8 = iI (s : Int)) (hv : VV w L G n s) :
    ∃ M' y, F_X0_fuelByRounds M = some (iI y, M') ∧ (∀ D, IsD w L G n s D → LE w L G n D y) ∧ frB M M' := by
  have hs := h.sz
  unfold F_X0_fuelByRounds
  obtain ⟨M1, f1, f2, f3⟩ := forget_I h
  rw [f1, ob_s, f3.2.1 8 (by decide), hst, iL_0]
  obtain ⟨M2, g1, g2, g3⟩ := find_I (a := s) (d := 0) (h.fr f3) f2 SB0 CB0 hv (by omega) (by omega)
  rw [g1, ob_s]
  have hc : CE n M2 (co0 s) := fun a ha => by
    have := g2.1 a ha
    rw [vis_new rfl] at this
    exact this
  obtain ⟨p, hp⟩ := fuelS 4097 (by decide)
  rw [hp]
  have h2 := (h.fr f3).fr g3
  obtain ⟨M3, co3, k1, k2, k3, k4, k5, k6⟩ := rounds_loop (K := fun M26 => obind (F_X0_leastCostOut M26) fun v27 => some (v27, M26)) 4097 0 p M2 (co0 s) 1 (by omega) h2 hc (W1_0 hv) (BD_0 hv.1) (Or.inr rfl) (fun z => by omega) (fun D hD => Or.inr (by
    have : 0 < fb_ct (FN D (co0 s)) (4 ^ n) := fb_ct_pos.mpr ⟨s, hv.1, FN_iff.mpr ⟨by rw [hD.1.2.2.1]; omega, by rw [hD.1.2.2.1]; exact if_pos rfl⟩⟩
    omega))
  obtain ⟨y, l1, l2⟩ := leastC_I (h2.fr k6) k2 k3.2.1 k3.1 (fun a => by have := k4.hi hs a; omega)
  refine ⟨M3, y, ?_, fun D hD => by rw [← k5 D hD]; exact l2, (f3.tr g3).tr k6⟩
  refine Eq.trans k1 ?_
  rw [l1, ob_s]
end WR

/-! ===== the tables of both sides, made ready for a search ===== -/
def frX (M M' : Wd) : Prop := (∀ c, c < 44 ∨ 50 < c → M'.1 c = M.1 c) ∧ M'.2 = M.2
theorem frX.rf (M : Wd) : frX M M := ⟨fun _ _ => rfl, rfl⟩
theorem frX.tr {M N O : Wd} (h : frX M N) (h2 : frX N O) : frX M O := ⟨fun c a => by rw [h2.1 c a, h.1 c a], by rw [h2.2, h.2]⟩
theorem frK.X {M N : Wd} (h : frK M N) : frX M N := ⟨fun c hc => h.1 c (by omega) (by omega) (by omega) (by omega) (by omega), h.2.2⟩
theorem frB.X {M N : Wd} (h : frB M N) : frX M N := h.K.X
def frY (M M' : Wd) : Prop := (∀ c, c < 53 ∨ c = 54 ∨ c = 55 ∨ c = 56 ∨ c = 57 ∨ 61 < c → M'.1 c = M.1 c) ∧ (∀ j, j ≠ 9 → j ≠ 10 → j ≠ 14 → M'.1 53 j = M.1 53 j) ∧ M'.2 = M.2
theorem frY.rf (M : Wd) : frY M M := ⟨fun _ _ => rfl, fun _ _ _ _ => rfl, rfl⟩
theorem frY.tr {M N O : Wd} (h : frY M N) (h2 : frY N O) : frY M O := ⟨fun c a => by rw [h2.1 c a, h.1 c a], fun j a b c => by rw [h2.2.1 j a b c, h.2.1 j a b c], by rw [h2.2.2, h.2.2]⟩
theorem frQ.Y {M N : Wd} (h : frQ M N) : frY M N := ⟨fun c hc => h.1 c (by omega) (by omega) (by omega) (by omega), fun j _ _ c => h.2.1 j c, h.2.2⟩
theorem frG.Y {M N : Wd} (h : frG M N) : frY M N := h.Q.Y
theorem PkC.frx {b n w k : Nat} {z : Int} {L P G lc : Nat → Nat} {lb : Nat → Int} {M N : Wd} (h : PkC b n w k z L P G lc lb M) (hb : b ≤ 38) (hf : frX M N) : PkC b n w k z L P G lc lb N := by
  obtain ⟨h1, h2, h3, h4, h5, h6, h7, h8, h9, h10⟩ := h
  refine ⟨?_, ?_, ?_, ?_, fun hz => ?_, fun i hi => ?_, fun i hi => ?_, fun i hi => ?_, fun i hi => ?_, fun i hi => ?_⟩ <;> (rw [hf.1 _ (by omega)]; first | assumption | exact h5 hz | exact h6 i hi | exact h7 i hi | exact h8 i hi | exact h9 i hi | exact h10 i hi)
section TB
variable {w m : Nat} {L G : Nat → Nat}
def tbv (w : Nat) (L G : Nat → Nat) (c a : Nat) : Int32 := if okc w L G c a = true then iI ((ocm w L G (dg a) c : Nat) : Int) else iI (-1)
theorem idx_inj {N q a p i : Nat} (ha : a < N) (hi : i < N) (h : N * q + a = N * p + i) : q = p ∧ a = i := by
  have h1 : (N * q + a) / N = q := by rw [Nat.mul_add_div (by omega), Nat.div_eq_of_lt ha, Nat.add_zero]
  have h2 : (N * p + i) / N = p := by rw [Nat.mul_add_div (by omega), Nat.div_eq_of_lt hi, Nat.add_zero]
  have hq : q = p := by rw [← h1, h, h2]
  subst hq
  exact ⟨rfl, by omega⟩
theorem dg_lo {c a p i : Nat} (ha : a < 4 ^ c) (hi : i < c) : dg (4 ^ c * p + a) i = dg a i := by
  rw [Nat.add_comm, Nat.mul_comm, dg_high ha, if_pos hi]
theorem dg_top {c a p : Nat} (ha : a < 4 ^ c) (hp : p < 4) : dg (4 ^ c * p + a) c = p := by
  rw [Nat.add_comm, Nat.mul_comm, dg_high ha, if_neg (by omega), Nat.sub_self, dg_0, Nat.mod_eq_of_lt hp]
theorem tb_okc {c a p : Nat} (ha : a < 4 ^ c) (hp : p < 4) : okc w L G (c + 1) (4 ^ c * p + a) = true ↔ okc w L G c a = true ∧ p + G c ≤ 5 ∧ ocm w L G (dg a) c &&& cm (L c) p (G c) = 0 := by
  unfold okc
  rw [okb_s, dg_top ha hp, okb_cong (p' := dg a) (L' := L) (G' := G) (fun i hi => ⟨dg_lo ha hi, rfl, rfl⟩), ocm_cong (p' := dg a) (L' := L) (G' := G) (fun i hi => ⟨dg_lo ha hi, rfl, rfl⟩)]
theorem tb_ocm {c a p : Nat} (ha : a < 4 ^ c) (hp : p < 4) : ocm w L G (dg (4 ^ c * p + a)) (c + 1) = ocm w L G (dg a) c ||| cm (L c) p (G c) := by
  show ocm w L G (dg (4 ^ c * p + a)) c ||| cm (L c) (dg (4 ^ c * p + a) c) (G c) = _
  rw [dg_top ha hp, ocm_cong (p' := dg a) (L' := L) (G' := G) (fun i hi => ⟨dg_lo ha hi, rfl, rfl⟩)]
theorem tog_y {a b : Int32} (h1 : ¬ a = -1) (h2 : ¬ b = -1) : F_X0_together a b = if (a &&& b) = 0 then a ||| b else -1 := by
  unfold F_X0_together
  simp only [if_neg h1, if_neg h2, bnd_v]
  by_cases h : (a &&& b) = 0
  · rw [if_pos h, if_pos h]; exact if_neg (by decide)
  · rw [if_neg h, if_neg h]; exact if_pos rfl
theorem tog_1 {b : Int32} : F_X0_together (-1) b = -1 := rfl
theorem tog_2 {a : Int32} : F_X0_together a (-1) = -1 := by
  unfold F_X0_together
  rw [bnd_v]
  by_cases h : a = -1
  · rw [if_pos h]; rfl
  · rw [if_neg h]; rfl
theorem ne_m1 {x : Nat} (h : x < 2147483648) : ¬ iI (x : Int) = (-1 : Int32) := by
  rw [iL_m1, iI_eq (by omega) (by omega) (by omega) (by omega)]
  omega
theorem together_I {c a p : Nat} (hw : w < 33554432) (hLG : LGok L G (c + 1)) (ha : a < 4 ^ c) (hp : p < 4) : F_X0_together (tbv w L G c a) (if p + G c ≤ 5 then iI ((cm (L c) p (G c) : Nat) : Int) else iI (-1)) = tbv w L G (c + 1) (4 ^ c * p + a) := by
  have hg := hLG c (by omega)
  unfold tbv
  by_cases h1 : okc w L G c a = true
  · have ho := okc_ocm hw (fun i hi => hLG i (by omega)) h1
    rw [if_pos h1]
    by_cases h2 : p + G c ≤ 5
    · have hcm := cm_lt_f _ hg.1 _ hp _ hg.2.2 hg.2.1 h2
      have hand : ocm w L G (dg a) c &&& cm (L c) p (G c) ≤ ocm w L G (dg a) c := Nat.and_le_left
      rw [if_pos h2, tog_y (ne_m1 (by omega)) (ne_m1 (by omega)), iI_and, iL_0, if_eq (by omega) (by omega) (by omega) (by omega), iI_or]
      by_cases h3 : ocm w L G (dg a) c &&& cm (L c) p (G c) = 0
      · rw [if_pos (by omega), if_pos ((tb_okc ha hp).mpr ⟨h1, h2, h3⟩), tb_ocm ha hp]
      · rw [if_neg (by omega), if_neg (fun z => h3 ((tb_okc ha hp).mp z).2.2)]; rfl
    · rw [if_neg h2, if_neg (fun z => h2 ((tb_okc ha hp).mp z).2.1)]
      exact tog_2
  · rw [if_neg h1, if_neg (fun z => h1 ((tb_okc ha hp).mp z).1)]
    exact tog_1
def frT (M M' : Wd) : Prop := (∀ c, c ≠ 46 → c ≠ 44 → M'.1 c = M.1 c) ∧ (∀ j, j ≠ 7 → M'.1 44 j = M.1 44 j) ∧ M'.2 = M.2
theorem frT.rf (M : Wd) : frT M M := ⟨fun _ _ _ => rfl, fun _ _ => rfl, rfl⟩
theorem frT.tr {M N O : Wd} (h : frT M N) (h2 : frT N O) : frT M O := ⟨fun c a b => by rw [h2.1 c a b, h.1 c a b], fun j hj => by rw [h2.2.1 j hj, h.2.1 j hj], by rw [h2.2.2, h.2.2]⟩
theorem frT_46 {M : Wd} {k : Nat} {v : Int32} : frT M (upI M 46 k v) := ⟨fun c h1 h2 => upI_row_ne h1, fun j hj => by rw [upI_row_ne (by decide)], rfl⟩
def TBs (w : Nat) (L G : Nat → Nat) (c p i : Nat) (M : Wd) : Prop := (∀ q a, q < 4 → a < 4 ^ c → (p < q ∨ (q = p ∧ a < i)) → M.1 46 (4 ^ c * q + a) = tbv w L G (c + 1) (4 ^ c * q + a)) ∧ ∀ a, a < 4 ^ c → (0 < p ∨ i ≤ a) → M.1 46 a = tbv w L G c a
theorem tab_in {c p : Nat} (hc : c < 6) (hp : p < 4) (hw : w < 33554432) (hLG : LGok L G (c + 1)) {ρ : Type} {K : Wd → Option ρ} : ∀ (r q i : Nat) (M : Wd), i + r = 4 ^ c → TBs w L G c p i M →
    ∃ M', F_X0_addToTable_L37 (iI (L c : Int)) (iI (G c : Int)) (iI ((4 ^ c : Nat) : Int)) (iI (p : Int)) (if p + G c ≤ 5 then iI ((cm (L c) p (G c) : Nat) : Int) else iI (-1)) K (q + 1 + r) (iI (i : Int)) M = K M' ∧ TBs w L G c p (4 ^ c) M' ∧ frT M M'
  | 0, q, i, M, hr, hT => by
    have hp4 := pow4_le (show c ≤ 6 by omega)
    refine ⟨M, ?_, by rw [← hr]; exact hT, frT.rf M⟩
    show (if iI ((4 ^ c : Nat) : Int) ≤ iI (i : Int) then K M else _) = K M
    rw [if_le (by omega) (by omega) (by omega) (by omega), if_pos (by omega)]
  | r + 1, q, i, M, hr, hT => by
    have hp4 := pow4_lt hc (Nat.le_refl 6)
    have hmul : 4 ^ c * p ≤ 1024 * 3 := Nat.mul_le_mul hp4 (by omega)
    have e1 : ((4 ^ c : Nat) : Int) * (p : Int) + (i : Int) = ((4 ^ c * p + i : Nat) : Int) := by rw [Int.natCast_add, Int.natCast_mul]
    show ∃ M', (if iI ((4 ^ c : Nat) : Int) ≤ iI (i : Int) then K M else if (4096 : Int32) ≤ ((iI ((4 ^ c : Nat) : Int) * iI (p : Int)) + iI (i : Int)) then K M else ldi (M.1 46) 4096 (iI (i : Int)) fun v10 => inb 4096 ((iI ((4 ^ c : Nat) : Int) * iI (p : Int)) + iI (i : Int)) <| bnd (iI (i : Int) + (1 : Int32)) fun v15 => F_X0_addToTable_L37 (iI (L c : Int)) (iI (G c : Int)) (iI ((4 ^ c : Nat) : Int)) (iI (p : Int)) (if p + G c ≤ 5 then iI ((cm (L c) p (G c) : Nat) : Int) else iI (-1)) K (q + 1 + r) v15 (upI M 46 ((iI ((4 ^ c : Nat) : Int) * iI (p : Int)) + iI (i : Int)).toNatClampNeg (F_X0_together v10 (if p + G c ≤ 5 then iI ((cm (L c) p (G c) : Nat) : Int) else iI (-1))))) = K M' ∧ _
    rw [if_le (by omega) (by omega) (by omega) (by omega), if_neg (by omega), iI_mul, iI_add, e1, show (4096 : Int32) = iI 4096 from rfl, if_le (by omega) (by omega) (by omega) (by omega), if_neg (by omega), ldi_N (by omega) (by omega), inb_N (by omega) (by omega), bnd_v, iI_clN (by omega), hT.2 i (by omega) (Or.inr (Nat.le_refl _)), together_I hw hLG (by omega) hp, s1_I]
    obtain ⟨M1, k1, k2, k3⟩ := tab_in hc hp hw hLG (K := K) r q (i + 1) (upI M 46 (4 ^ c * p + i) (tbv w L G (c + 1) (4 ^ c * p + i))) (by omega) ⟨fun q a hq ha hh => by
      rw [upI_row]
      show upd (M.1 46) (4 ^ c * p + i) (tbv w L G (c + 1) (4 ^ c * p + i)) (4 ^ c * q + a) = _
      by_cases e : 4 ^ c * q + a = 4 ^ c * p + i
      · rw [e]; exact if_pos rfl
      · rw [← hT.1 q a hq ha (by
          rcases hh with hh | ⟨h1, h2⟩
          · exact Or.inl hh
          · right
            refine ⟨h1, ?_⟩
            have : a ≠ i := fun z => e (by rw [h1, z])
            omega)]
        exact if_neg e, fun a ha hh => by
      rw [upI_row, ← hT.2 a ha (by omega)]
      refine if_neg fun z => ?_
      have z2 : 4 ^ c * 0 + a = 4 ^ c * p + i := by rw [Nat.mul_zero, Nat.zero_add]; exact z
      have := idx_inj ha (by omega) z2
      omega⟩
    exact ⟨M1, k1, k2, frT_46.tr k3⟩
theorem tab_out {c : Nat} (hc : c < 6) (hw : w < 33554432) (hLG : LGok L G (c + 1)) {ρ : Type} {K : Wd → Option ρ} : ∀ (p q : Nat) (M : Wd), p ≤ 4 → (∀ q a, q < 4 → a < 4 ^ c → p ≤ q → M.1 46 (4 ^ c * q + a) = tbv w L G (c + 1) (4 ^ c * q + a)) → (0 < p → ∀ a, a < 4 ^ c → M.1 46 a = tbv w L G c a) →
    ∃ M', F_X0_addToTable_L8 (iI (L c : Int)) (iI (G c : Int)) (iI ((4 ^ c : Nat) : Int)) K (q + 1 + p) (iI ((p : Int) - 1)) M = K M' ∧ (∀ q a, q < 4 → a < 4 ^ c → M'.1 46 (4 ^ c * q + a) = tbv w L G (c + 1) (4 ^ c * q + a)) ∧ frT M M'
  | 0, q, M, hp, hT, hT2 => by
    refine ⟨M, ?_, fun q a hq ha => hT q a hq ha (Nat.zero_le _), frT.rf M⟩
    show (if iI (-1) < (0 : Int32) then K M else _) = K M
    exact if_pos (by decide)
  | p + 1, q, M, hp, hT, hT2 => by
    have hg := hLG c (by omega)
    have hp4 := pow4_le (show c ≤ 6 by omega)
    obtain ⟨m, hm⟩ := fuelS (4 ^ c) (by omega)
    have ep : (((p + 1 : Nat) : Int) - 1) = (p : Int) := by omega
    rw [ep]
    show ∃ M', (if iI (p : Int) < (0 : Int32) then K M else bnd (if (5 : Int32) < (iI (p : Int) + iI (G c : Int)) then (-1 : Int32) else (F_X3_cellsOf (iI (L c : Int)) (iI (p : Int)) (iI (G c : Int)))) fun v4 => F_X0_addToTable_L37 (iI (L c : Int)) (iI (G c : Int)) (iI ((4 ^ c : Nat) : Int)) (iI (p : Int)) v4 (fun M17 => bnd (iI (p : Int) + (-1 : Int32)) fun v18 => F_X0_addToTable_L8 (iI (L c : Int)) (iI (G c : Int)) (iI ((4 ^ c : Nat) : Int)) K (q + 1 + p) v18 M17) fuelN (0 : Int32) M) = K M' ∧ _
    have ec : (if (5 : Int32) < (iI (p : Int) + iI (G c : Int)) then (-1 : Int32) else (F_X3_cellsOf (iI (L c : Int)) (iI (p : Int)) (iI (G c : Int)))) = if p + G c ≤ 5 then iI ((cm (L c) p (G c) : Nat) : Int) else iI (-1) := by
      rw [iI_add, show (5 : Int32) = iI 5 from rfl, if_lt (by omega) (by omega) (by omega) (by omega)]
      by_cases e : p + G c ≤ 5
      · rw [if_neg (by omega), if_pos e, cellsOf_I hg.1 hg.2.1 hg.2.2 e]
      · rw [if_pos (by omega), if_neg e]; rfl
    rw [iL_0, if_lt (by omega) (by omega) (by omega) (by omega), if_neg (by omega)]
    rw [ec, bnd_v, hm]
    obtain ⟨M1, f1, f2, f3⟩ := tab_in hc (show p < 4 by omega) hw hLG (K := fun M17 => bnd (iI (p : Int) + (-1 : Int32)) fun v18 => F_X0_addToTable_L8 (iI (L c : Int)) (iI (G c : Int)) (iI ((4 ^ c : Nat) : Int)) K (q + 1 + p) v18 M17) (4 ^ c) m 0 M (by omega) ⟨fun q a hq ha hh => hT q a hq ha (by omega), fun a ha _ => hT2 (by omega) a ha⟩
    obtain ⟨M2, k1, k2, k3⟩ := tab_out hc hw hLG (K := K) p q M1 (by omega) (fun q a hq ha hh => f2.1 q a hq ha (by omega)) (fun h0 a ha => f2.2 a ha (Or.inl h0))
    refine ⟨M2, ?_, k2, f3.tr k3⟩
    refine Eq.trans f1 ?_
    rw [bnd_v, iL_m1, iI_add]
    exact k1
theorem addTo_I {c : Nat} {M : Wd} (hc : c < 6) (hw : w < 33554432) (hLG : LGok L G (c + 1)) (h7 : M.1 44 7 = iI ((4 ^ c : Nat) : Int)) (hT : ∀ a, a < 4 ^ c → M.1 46 a = tbv w L G c a) :
    ∃ M', F_X0_addToTable (iI (L c : Int)) (iI (G c : Int)) M = some M' ∧ M'.1 44 7 = iI ((4 ^ (c + 1) : Nat) : Int) ∧ (∀ a, a < 4 ^ (c + 1) → M'.1 46 a = tbv w L G (c + 1) a) ∧ frT M M' := by
  have hp4 := pow4_lt hc (Nat.le_refl 6)
  have hp0 := pow4_pos c
  unfold F_X0_addToTable
  obtain ⟨m, hm⟩ := fuelS 4 (by decide)
  rw [bnd_v, h7, hm]
  obtain ⟨M1, k1, k2, k3⟩ := tab_out hc hw hLG (K := fun M20 => some (upI M20 44 7 (F_min (iI ((4 ^ c : Nat) : Int) * (4 : Int32)) (4096 : Int32)))) 4 m M (Nat.le_refl 4) (fun q a hq ha hh => by omega) (fun _ => hT)
  refine ⟨_, k1, ?_, fun a ha => ?_, k3.tr ⟨fun c h1 h2 => upI_row_ne h2, fun j hj => by rw [upI_row]; exact if_neg hj, rfl⟩⟩
  · rw [upI_row]
    refine (if_pos rfl).trans ?_
    have e : ((4 ^ c : Nat) : Int) * 4 = ((4 ^ (c + 1) : Nat) : Int) := by rw [Nat.pow_succ]; omega
    have hh : 4 ^ (c + 1) ≤ 4096 := pow4_le (by omega)
    rw [show (4 : Int32) = iI 4 from rfl, iI_mul, e, show (4096 : Int32) = iI 4096 from rfl, F_min_I (by omega) (by omega) (by omega) (by omega), if_neg (by omega)]
  · rw [upI_row_ne (by decide)]
    have e : a = 4 ^ c * (a / 4 ^ c) + a % 4 ^ c := (Nat.div_add_mod a (4 ^ c)).symm
    have hq : a / 4 ^ c < 4 := by
      rw [Nat.div_lt_iff_lt_mul hp0]
      rw [Nat.pow_succ] at ha
      omega
    have := k2 (a / 4 ^ c) (a % 4 ^ c) hq (Nat.mod_lt _ hp0)
    rw [← e] at this
    exact this
end TB
section LD
variable {n w k m : Nat} {z : Int} {L P G lc : Nat → Nat} {lb : Nat → Int}
theorem enc_s {p : Nat → Nat} {i : Nat} : enc p (i + 1) = enc p i + p i * 4 ^ i := rfl
theorem load_loop {ww : Nat} (hm : m ≤ n) (hn : n ≤ 6) (hww : ww < 33554432) (hLG : LGok L G n) (hP4 : ∀ i, i < n → P i < 4) {ρ : Type} {K : Wd → Option ρ} : ∀ (r q c : Nat) (M : Wd), c + r = m → (∀ i, i < n → M.1 2 i = iI (L i : Int) ∧ M.1 3 i = iI (P i : Int) ∧ M.1 4 i = iI (G i : Int)) → M.1 44 6 = iI (m : Int) → M.1 44 7 = iI ((4 ^ c : Nat) : Int) → M.1 44 8 = iI ((enc P c : Nat) : Int) → (∀ i, i < c → M.1 45 i = iI (G i : Int)) → (∀ a, a < 4 ^ c → M.1 46 a = tbv ww L G c a) →
    ∃ M', F_X0_load_L34 K (q + 1 + r) (iI (c : Int)) M = K M' ∧ EL ww m L G M' ∧ M'.1 44 8 = iI ((enc P m : Nat) : Int) ∧ frX M M'
  | 0, q, c, M, hr, h0, h6, h7, h8, h45, h46 => by
    have e : c = m := by omega
    subst e
    refine ⟨M, ?_, ⟨⟨by omega, hww, fun i hi => hLG i (by omega)⟩, h6, h7, h45, fun a ha => h46 a ha⟩, h8, frX.rf M⟩
    show (if (M.1 44 6) ≤ iI (c : Int) then K M else _) = K M
    rw [h6, if_le (by omega) (by omega) (by omega) (by omega), if_pos (by omega)]
  | r + 1, q, c, M, hr, h0, h6, h7, h8, h45, h46 => by
    have hcn : c < n := by omega
    have hp4 := pow4_lt (show c < 6 by omega) (Nat.le_refl 6)
    obtain ⟨b1, b2, b3⟩ := h0 c hcn
    show ∃ M', (if (M.1 44 6) ≤ iI (c : Int) then K M else if (6 : Int32) ≤ iI (c : Int) then K M else ldi (M.1 4) 6 (iI (c : Int)) fun v3 => inb 6 (iI (c : Int)) <| ldi (M.1 3) 6 (iI (c : Int)) fun v7 => ldi (M.1 2) 6 (iI (c : Int)) fun v10 => ldi (M.1 4) 6 (iI (c : Int)) fun v13 => obind (F_X0_addToTable v10 v13 (upI (upI M 45 (iI (c : Int)).toNatClampNeg v3) 44 8 ((M.1 44 8) + (v7 <<< (((2 : Int32) * iI (c : Int)) &&& 31))))) fun M16 => bnd (iI (c : Int) + (1 : Int32)) fun v18 => F_X0_load_L34 K (q + 1 + r) v18 M16) = K M' ∧ _
    rw [h6, if_le (by omega) (by omega) (by omega) (by omega), if_neg (by omega), show (6 : Int32) = iI 6 from rfl, if_le (by omega) (by omega) (by omega) (by omega), if_neg (by omega), ldi_N (a := M.1 4) (by omega) (by omega), ldi_N (a := M.1 3) (by omega) (by omega), ldi_N (a := M.1 2) (by omega) (by omega), ldi_N (a := M.1 4) (by omega) (by omega), inb_N (by omega) (by omega), b1, b2, b3, iI_clN (by omega), h8, shl_I (by omega), iI_add]
    have hS : ∀ N : Wd, N = upI (upI M 45 c (iI (G c : Int))) 44 8 (iI (((enc P c : Nat) : Int) + ((P c * 4 ^ c : Nat) : Int))) → N.1 44 7 = iI ((4 ^ c : Nat) : Int) ∧ (∀ a, a < 4 ^ c → N.1 46 a = tbv ww L G c a) ∧ N.1 44 6 = iI (m : Int) ∧ N.1 44 8 = iI ((enc P (c + 1) : Nat) : Int) ∧ (∀ i, i < c + 1 → N.1 45 i = iI (G i : Int)) ∧ frX M N := by
      rintro N rfl
      refine ⟨?_, fun a ha => ?_, ?_, ?_, fun i hi => ?_, ⟨fun c hc => ?_, rfl⟩⟩
      · rw [upI_row, ← h7]
        show upd _ 8 _ 7 = _
        rw [upI_row_ne (by decide)]; exact if_neg (by decide)
      · rw [upI_row_ne (by decide), upI_row_ne (by decide)]; exact h46 a ha
      · rw [upI_row, ← h6]
        show upd _ 8 _ 6 = _
        rw [upI_row_ne (by decide)]; exact if_neg (by decide)
      · rw [upI_row]; exact (if_pos rfl).trans rfl
      · rw [upI_row_ne (by decide), upI_row]
        show upd (M.1 45) c (iI (G c : Int)) i = _
        by_cases e : i = c
        · rw [e]; exact if_pos rfl
        · rw [← h45 i (by omega)]; exact if_neg e
      · rw [upI_row_ne (by omega), upI_row_ne (by omega)]
    obtain ⟨g1, g2, g3, g4, g5, g6⟩ := hS _ rfl
    obtain ⟨M1, k1, k2, k3, k4⟩ := addTo_I (L := L) (G := G) (show c < 6 by omega) hww (fun i hi => hLG i (by omega)) g1 g2
    rw [k1, ob_s, bnd_v, s1_I]
    have hX : frX M M1 := g6.tr ⟨fun c hc => k4.1 c (by omega) (by omega), k4.2.2⟩
    obtain ⟨M2, l1, l2, l3, l4⟩ := load_loop hm hn hww hLG hP4 (K := K) r q (c + 1) M1 (by omega) (fun i hi => by
      rw [hX.1 2 (by omega), hX.1 3 (by omega), hX.1 4 (by omega)]; exact h0 i hi) (by rw [k4.2.1 6 (by decide)]; exact g3) k2 (by rw [k4.2.1 8 (by decide)]; exact g4) (fun i hi => by rw [k4.1 45 (by decide) (by decide)]; exact g5 i hi) k3
    exact ⟨M2, l1, l2, l3, hX.tr l4⟩
theorem load_I {ww : Nat} {M : Wd} (h : PkC 1 n w k z L P G lc lb M) (hW : PkW n w k z L P G lc lb) (hm : m ≤ n) (hww : ww < 33554432) :
    ∃ M', F_X0_load (iI (m : Int)) (iI (ww : Int)) M = some M' ∧ EL ww m L G M' ∧ M'.1 44 8 = iI ((enc P m : Nat) : Int) ∧ frX M M' := by
  have hn := hW.n6
  unfold F_X0_load
  obtain ⟨p, hp⟩ := fuelS m (by omega)
  have em : F_max (0 : Int32) (F_min (iI (m : Int)) (6 : Int32)) = iI (m : Int) := by
    rw [show (6 : Int32) = iI 6 from rfl, F_min_I (by omega) (by omega) (by omega) (by omega), if_neg (by omega), iL_0, F_max_I (by omega) (by omega) (by omega) (by omega)]
    by_cases e : (0 : Int) < m
    · rw [if_pos e]
    · rw [if_neg e, show (m : Int) = 0 by omega]
  rw [em, hp]
  have hS : ∀ N : Wd, N = upI (upI (upI (upI M 44 6 (iI (m : Int))) 44 7 (1 : Int32)) 44 8 (0 : Int32)) 46 0 (iI (ww : Int)) → N.1 44 6 = iI (m : Int) ∧ N.1 44 7 = (1 : Int32) ∧ N.1 44 8 = (0 : Int32) ∧ N.1 46 0 = iI (ww : Int) ∧ frX M N := by
    rintro N rfl
    refine ⟨rfl, rfl, rfl, ?_, ⟨fun c hc => ?_, rfl⟩⟩
    · rw [upI_row]; exact if_pos rfl
    · rw [upI_row_ne (by omega), upI_row_ne (by omega), upI_row_ne (by omega), upI_row_ne (by omega)]
  obtain ⟨g1, g2, g3, g4, g5⟩ := hS _ rfl
  obtain ⟨M1, k1, k2, k3, k4⟩ := load_loop (P := P) hm hn hww hW.2.2.1 (fun i hi => hW.P4 hi) (K := fun M20 => some M20) m p 0 _ (by omega) (fun i hi => by
    rw [g5.1 2 (by omega), g5.1 3 (by omega), g5.1 4 (by omega)]
    exact ⟨h.vL hi, h.vP hi, h.vG hi⟩) g1 g2 g3 (fun i hi => by omega) (fun a ha => by
    have e : a = 0 := by rw [Nat.pow_zero] at ha; omega
    rw [e, g4]; rfl)
  exact ⟨M1, k1, k2, k3, g5.tr k4⟩
theorem explore_I {M : Wd} (h : PkC 1 n w k z L P G lc lb M) (hW : PkW n w k z L P G lc lb) :
    ∃ M', F_X3_exploreNow M = some M' ∧ EL w n L G M' ∧ M'.1 44 8 = iI ((enc P n : Nat) : Int) ∧ frX M M' := by
  unfold F_X3_exploreNow
  obtain ⟨M1, k1, k2, k3, k4⟩ := load_I h hW (Nat.le_refl n) hW.2.1
  rw [h.vn, h.vw, k1, ob_s]
  exact ⟨M1, rfl, k2, k3, k4⟩
/-! the model's table -/
def frP (M M' : Wd) : Prop := (∀ c, c ≠ 53 → c ≠ 58 → M'.1 c = M.1 c) ∧ (∀ j, j ≠ 9 → j ≠ 10 → M'.1 53 j = M.1 53 j) ∧ M'.2 = M.2
theorem frP.rf (M : Wd) : frP M M := ⟨fun _ _ _ => rfl, fun _ _ _ => rfl, rfl⟩
theorem frP.tr {M N O : Wd} (h : frP M N) (h2 : frP N O) : frP M O := ⟨fun c a b => by rw [h2.1 c a b, h.1 c a b], fun j a b => by rw [h2.2.1 j a b, h.2.1 j a b], by rw [h2.2.2, h.2.2]⟩
theorem frP.Y {M N : Wd} (h : frP M N) : frY M N := ⟨fun c hc => h.1 c (by omega) (by omega), fun j a b _ => h.2.1 j a b, h.2.2⟩
theorem kmod4_I {x : Nat} (hx : x < 2147483648) : iI (x : Int) - iI (x : Int) / (4 : Int32) * (4 : Int32) = iI ((x % 4 : Nat) : Int) := by
  rw [show (4 : Int32) = iI ((4 : Nat) : Int) from rfl, iI_div _ _ hx (by decide) (by decide), iI_mul, iI_sub]
  congr 1
  omega
def mkv (L G : Nat → Nat) (x : Nat) : Nat := if x % 4 + G (x / 4) ≤ 5 then cm (L (x / 4)) (x % 4) (G (x / 4)) else 0
theorem enc_or {p : Nat → Nat} {i : Nat} (h : ∀ j, j < i → p j < 4) : enc p i ||| p i * 4 ^ i = enc p (i + 1) := by
  have h1 : enc p i < 2 ^ (2 * i) := by rw [pow4]; exact enc_lt h
  rw [enc_s, ← pow4, Nat.mul_comm (p i), Nat.or_comm, ← Nat.two_pow_add_eq_or_of_lt h1, Nat.add_comm]
end LD

/-! ===== driving out ===== -/
def PLn (co : Nat → Int) : Nat → Pst → Pst → Prop
  | 0, s, s' => s' = s
  | r + 1, (n, w, k, z, L, P, G, lc, lb), s' => ∃ x q : Nat, NX1 w L G n co (enc P n) x ∧ (q : Int) = (P (x / 7) : Int) + (((x % 7 : Nat) : Int) - 3) ∧ q < 4 ∧ okb w L G (updN P (x / 7) q) n = true ∧ bsB w L G n (x / 7) (((x % 7 : Nat) : Int) - 3) (enc P n) = some (enc (updN P (x / 7) q) n) ∧ co (enc (updN P (x / 7) q) n) = co (enc P n) - 1 ∧ PLn co r (n, w, k + 1, z, L, updN P (x / 7) q, G, updN lc k (x / 7), updZ lb k (((x % 7 : Nat) : Int) - 3)) s'
theorem pl_ex {S : SS} {n w : Nat} {z : Int} {L G : Nat → Nat} (hS : SrE w L G n S) : ∀ (r k : Nat) (P lc : Nat → Nat) (lb : Nat → Int), PkW n w k z L P G lc lb → S.1 (enc P n) = (r : Int) → k + r ≤ 60 → ∃ s', PLn S.1 r (n, w, k, z, L, P, G, lc, lb) s' ∧ pW s'
  | 0, k, P, lc, lb, hW, _, _ => ⟨_, rfl, hW⟩
  | r + 1, k, P, lc, lb, hW, hd, hk => by
    obtain ⟨x, hx⟩ := NX1_ex hS hW.vv (by omega)
    have hx1 := hx.1
    obtain ⟨x3, v, v1, v2⟩ := hx.2.1
    have hc : x / 7 < n := by omega
    cases ec : canS w L G P n (x / 7) (((x % 7 : Nat) : Int) - 3) with
    | false => rw [slide_n hW hc (by omega) (by omega) ec] at v1; cases v1
    | true =>
      obtain ⟨q, q1, q2, q3, q4⟩ := slide_y hW hc (by omega) (by omega) ec
      rw [q4] at v1
      cases v1
      obtain ⟨s', t1, t2⟩ := pl_ex hS r (k + 1) _ _ _ (wf_slide hW hc (by omega) (by omega) (by omega) q1 q3) (by omega) (by omega)
      exact ⟨s', ⟨x, q, hx, q1, q2, q3, q4, v2, t1⟩, t2⟩
def frZ (M N : Wd) : Prop := (∀ c, c = 0 ∨ (6 < c ∧ c < 44) ∨ 50 < c → N.1 c = M.1 c) ∧ N.2 = M.2
theorem frZ.rf (M : Wd) : frZ M M := ⟨fun _ _ => rfl, rfl⟩
theorem frZ.tr {M N O : Wd} (h : frZ M N) (h2 : frZ N O) : frZ M O := ⟨fun c a => by rw [h2.1 c a, h.1 c a], by rw [h2.2, h.2]⟩
theorem frC1.Z {M N : Wd} (h : frC1 M N) : frZ M N := ⟨fun c hc => h.1 c (by omega), h.2⟩
theorem frX.Z {M N : Wd} (h : frX M N) : frZ M N := ⟨fun c hc => h.1 c (by omega), h.2⟩
theorem frZ.cl {M N : Wd} (h : frZ M N) : frCl M N := fun c hc => h.1 c (by omega)
theorem CI.nowZ {S : Wst} {M N : Wd} {s : Pst} (h : CI S M) (hc5 : sC S ≤ 5) (h1 : pC 1 s N) (hf : frZ M N) : CI (setN S s) N := by
  obtain ⟨a1, a2, a3, a4, a5, a6, a7, a8⟩ := h
  refine ⟨h1, by rw [hf.1 0 (by omega)]; exact a2, fun z => (a3 z).cells fun j hj => hf.1 _ (by omega), by rw [hf.1 0 (by omega)]; exact a4, fun i hi => ?_, ?_, by rw [hf.1 51 (by omega)]; exact a7, fun i hi => by rw [hf.1 52 (by omega)]; exact a8 i hi⟩
  · rw [hf.2]
    refine (a5 i hi).cells fun j hj => ?_
    have hi' : i < sC S := hi
    have := a6.1 i (by omega)
    exact hf.1 _ (by unfold isSv at this; omega)
  · unfold plc; rw [hf.2]; exact a6
theorem EL.eqv {w n : Nat} {L G : Nat → Nat} {M N : Wd} (h : EL w n L G M) (h6 : N.1 44 6 = M.1 44 6) (h7 : N.1 44 7 = M.1 44 7) (h45 : N.1 45 = M.1 45) (h46 : N.1 46 = M.1 46) : EL w n L G N := by
  obtain ⟨h0, h1, h2, h3, h4⟩ := h
  exact ⟨h0, by rw [h6]; exact h1, by rw [h7]; exact h2, fun i hi => by rw [h45]; exact h3 i hi, fun a ha => by rw [h46]; exact h4 a ha⟩
theorem SE.eqv {n : Nat} {S : SS} {M N : Wd} (h : SE n M S) (h9 : N.1 44 9 = M.1 44 9) (h47 : N.1 47 = M.1 47) (h48 : N.1 48 = M.1 48) : SE n N S := by
  obtain ⟨h1, h2, h3⟩ := h
  exact ⟨fun a ha => by rw [h47]; exact h1 a ha, fun j hj => by rw [h48]; exact h2 j hj, by rw [h9]; exact h3⟩
section DO
variable {n w : Nat} {z : Int} {L G : Nat → Nat}
theorem cplan_loop {S : SS} {s' : Pst} (hE : SrE w L G n S) (hB : CB S) {ρ : Type} {K : Wd → Option ρ} : ∀ (r q i r0 k : Nat) (P lc : Nat → Nat) (lb : Nat → Int) (M : Wd), i + r = r0 → r0 ≤ 5000 → k + r ≤ 60 → S.1 (enc P n) = (r : Int) → PkC 1 n w k z L P G lc lb M → PkW n w k z L P G lc lb → EL w n L G M → SE n M S → PLn S.1 r (n, w, k, z, L, P, G, lc, lb) s' →
    ∃ M', F_X3_makePlan_L10 (iI (r0 : Int)) K (q + 1 + r) (iI ((enc P n : Nat) : Int)) (iI (i : Int)) M = K M' ∧ pC 1 s' M' ∧ frZ M M'
  | 0, q, i, r0, k, P, lc, lb, M, hr, hr0, hk, hd, h, hW, hL, hS, hp => by
    refine ⟨M, ?_, by rw [show s' = _ from hp]; exact h, frZ.rf M⟩
    show (if iI (r0 : Int) ≤ iI (i : Int) then K M else _) = K M
    rw [if_le (by omega) (by omega) (by omega) (by omega), if_pos (by omega)]
  | r + 1, q, i, r0, k, P, lc, lb, M, hr, hr0, hk, hd, h, hW, hL, hS, hp => by
    obtain ⟨x, q', hx, q1, q2, q3, q4, q5, hp'⟩ := hp
    have hx1 := hx.1
    have hc : x / 7 < n := by omega
    have hn := hW.n6
    show ∃ M', (if iI (r0 : Int) ≤ iI (i : Int) then K M else obind2 (F_X0_findNextSlide (iI ((enc P n : Nat) : Int)) M) fun v4 M5 => if v4 = 0 then K M5 else bnd (M5.1 44 10) fun v9 => bnd (M5.1 44 11) fun v11 => obind2 (F_X1_makeSlide v9 v11 M5) fun v13 M14 => obind (F_X0_behindSlide (iI ((enc P n : Nat) : Int)) v9 v11 M14) fun v17 => bnd (iI (i : Int) + (1 : Int32)) fun v20 => F_X3_makePlan_L10 (iI (r0 : Int)) K (q + 1 + r) v17 v20 M14) = K M' ∧ _
    have hf0 : frX M (upI (upI M 44 10 (iI ((x / 7 : Nat) : Int))) 44 11 (iI (((x % 7 : Nat) : Int) - 3))) := ⟨fun c hc => by rw [upI_row_ne (by omega), upI_row_ne (by omega)], rfl⟩
    have h1 := h.frx (by omega) hf0
    obtain ⟨M1, f1, f2, f3⟩ := make_I h1 hW hc (by omega) q1
    have hrow : ∀ c, 6 < c → c ≠ 44 → M1.1 c = M.1 c := fun c c1 c2 => by rw [f3.1 c (Or.inr c1), upI_row_ne c2, upI_row_ne c2]
    have h44 : ∀ j, j ≠ 10 → j ≠ 11 → M1.1 44 j = M.1 44 j := fun j j1 j2 => by rw [f3.1 44 (by omega), upI_at, if_neg j2, upI_at, if_neg j1]
    have hL1 : EL w n L G M1 := hL.eqv (h44 6 (by decide) (by decide)) (h44 7 (by decide) (by decide)) (hrow 45 (by omega) (by omega)) (hrow 46 (by omega) (by omega))
    have hS1 : SE n M1 S := hS.eqv (h44 9 (by decide) (by decide)) (hrow 47 (by omega) (by omega)) (hrow 48 (by omega) (by omega))
    rw [if_le (by omega) (by omega) (by omega) (by omega), if_neg (by omega), cnext_y hL hS hE hB hW.vv (by omega) hx, ob2_s, if_neg (by decide), upI_at, if_neg (by decide), upI_at, if_pos rfl, upI_at, if_pos rfl, bnd_v, bnd_v, f1, ob2_s, bslide_I hL1 hc hW.elt (by omega) (by omega), ob_s, q4, s1_I, bnd_v]
    obtain ⟨M2, k1, k2, k3⟩ := cplan_loop hE hB (K := K) r q (i + 1) r0 (k + 1) _ _ _ M1 (by omega) hr0 (by omega) (by omega) f2 (wf_slide hW hc (by omega) (by omega) (by omega) q1 q3) hL1 hS1 hp'
    exact ⟨M2, k1, k2, (hf0.Z.tr f3.Z).tr k3⟩
theorem cmk_I {S : SS} {s' : Pst} {r k : Nat} {P lc : Nat → Nat} {lb : Nat → Int} {M : Wd} (hE : SrE w L G n S) (hB : CB S) (hk : k + r ≤ 60) (hd : S.1 (enc P n) = (r : Int)) (h : PkC 1 n w k z L P G lc lb M) (hW : PkW n w k z L P G lc lb) (hL : EL w n L G M) (hS : SE n M S) (hst : M.1 44 8 = iI ((enc P n : Nat) : Int)) (hp : PLn S.1 r (n, w, k, z, L, P, G, lc, lb) s') :
    ∃ M', F_X3_makePlan (iI (r : Int)) M = some ((1 : Int32), M') ∧ pC 1 s' M' ∧ frZ M M' := by
  unfold F_X3_makePlan
  obtain ⟨p, hp'⟩ := fuelS r (by omega)
  rw [bnd_v, hst, hp']
  obtain ⟨M', k1, k2, k3⟩ := cplan_loop hE hB (K := fun M22 => if iI (r : Int) < 0 then some ((0 : Int32), M22) else some ((1 : Int32), M22)) r p 0 r k P lc lb M (by omega) (by omega) hk hd h hW hL hS hp
  refine ⟨M', ?_, k2, k3⟩
  refine Eq.trans k1 ?_
  rw [iL_0, if_lt (by omega) (by omega) (by omega) (by omega), if_neg (by omega)]
theorem cmk_n {M : Wd} : F_X3_makePlan (iI (-1)) M = some ((0 : Int32), M) := by
  unfold F_X3_makePlan
  obtain ⟨p, hp'⟩ := fuelS 0 (by decide)
  rw [bnd_v, hp']
  rfl
/-- how many slides it drives; -1 if it can't -/
noncomputable def drv (w : Nat) (L G : Nat → Nat) (n a k : Nat) : Int := if (k : Int) + Aend w L G n a ≤ 60 then Aend w L G n a else -1
theorem cstd_I {k : Nat} {P lc : Nat → Nat} {lb : Nat → Int} {M : Wd} (h : PkC 1 n w k z L P G lc lb M) (hW : PkW n w k z L P G lc lb) :
    ∃ M' S, F_X3_slidesToDriveOut M = some (iI (drv w L G n (enc P n) k), M') ∧ SE n M' S ∧ CB S ∧ SrE w L G n S ∧ EL w n L G M' ∧ M'.1 44 8 = iI ((enc P n : Nat) : Int) ∧ frX M M' := by
  have hk := hW.k60
  obtain ⟨M1, f1, f2, f3, f4⟩ := explore_I h hW
  obtain ⟨M2, S, g1, g2, g3, g4, g5, g6, g7⟩ := cends_I f2 f3 hW.vv
  have hlo := Aend_lo g4 (a := enc P n)
  have hhi := Aend_hi g4 g3 hW.n6 (a := enc P n)
  have hA := Aend_eq (s := enc P n) g4
  refine ⟨M2, S, ?_, g2, g3, g4, g5, g6, f4.tr g7⟩
  have h2 := h.frx (by omega) (f4.tr g7)
  unfold F_X3_slidesToDriveOut drv
  rw [f1, ob_s, g1, ob2_s, h2.vk, iI_add, show (60 : Int32) = iI 60 from rfl, if_le (by omega) (by omega) (by omega) (by omega)]
  by_cases e : (k : Int) + Aend w L G n (enc P n) ≤ 60
  · rw [if_pos e, if_pos e]
  · rw [if_neg e, if_neg e]; rfl
def frV (M N : Wd) : Prop := (∀ c, c < 53 ∨ c = 54 ∨ c = 56 ∨ c = 57 ∨ 61 < c → N.1 c = M.1 c) ∧ (∀ j, j ≠ 9 → j ≠ 10 → j ≠ 14 → N.1 53 j = M.1 53 j) ∧ N.2 = M.2
theorem frV.rf (M : Wd) : frV M M := ⟨fun _ _ => rfl, fun _ _ _ _ => rfl, rfl⟩
theorem frV.tr {M N O : Wd} (h : frV M N) (h2 : frV N O) : frV M O := ⟨fun c a => by rw [h2.1 c a, h.1 c a], fun j a b c => by rw [h2.2.1 j a b c, h.2.1 j a b c], by rw [h2.2.2, h.2.2]⟩
theorem frY.V {M N : Wd} (h : frY M N) : frV M N := ⟨fun c hc => h.1 c (by omega), h.2.1, h.2.2⟩
theorem frM1.V {M N : Wd} (h : frM1 M N) : frV M N := ⟨fun c hc => h.1 c (by omega), fun j _ _ _ => by rw [h.1 53 (by decide)], h.2⟩
theorem frV.mo {M N : Wd} (h : frV M N) : frMo M N := ⟨fun c hc => h.1 c (by omega), by rw [h.2.2], by rw [h.2.2]⟩
end DO

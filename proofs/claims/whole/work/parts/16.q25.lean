/-! ===== calls that change ===== -/
theorem CI.svN {S : Wst} {M : Wd} (h : CI (savS S) M) : pC 1 (sN S) M := by have := h.1; rwa [savS_sN] at this
theorem MI'.svN {S : Wst} {M : Wd} (h : MI' (savS S) M) : pM 55 0 (sN S) M := by have := h.1; rwa [savS_sN] at this
theorem refuse_0 {M : Wd} : F_X3_refuse (iI 0) M = some (.inl (), M) := rfl
theorem refuse_1 {M : Wd} : F_X3_refuse (iI 1) M = some (.inr 1, M) := rfl
theorem refuse_2 {M : Wd} : F_X3_refuse (iI 2) M = some (.inr 2, M) := rfl
theorem refuse_3 {M : Wd} : F_X3_refuse (iI 3) M = some (.inr 3, M) := rfl
def tE (n w : Nat) (L G P : Nat → Nat) (l p g : Int) : Nat := if ¬ (0 ≤ l ∧ l < 10) then 1 else if ¬ (2 ≤ g ∧ g ≤ 3 ∧ 0 ≤ p ∧ p ≤ 5 - g) then 2 else if n = 6 ∨ ocm w L G P n &&& cm l.toNat p.toNat g.toNat ≠ 0 ∨ (n = 0 ∧ 5 ≤ l) then 3 else 0
section TE
variable {n w k : Nat} {z : Int} {L P G lc : Nat → Nat} {lb : Nat → Int} {M : Wd}
theorem center_t (h : PkC 1 n w k z L P G lc lb M) (hW : PkW n w k z L P G lc lb) {l p g : Int} (l1 : -2147483648 ≤ l) (l2 : l < 2147483648) (p1 : -2147483648 ≤ p) (p2 : p < 2147483648) (g1 : -2147483648 ≤ g) (g2 : g < 2147483648) : F_X1_troubleOfEntering (iI l) (iI p) (iI g) M = some (iI (tE n w L G P l p g : Nat)) := by
  have hn := hW.n6
  have ho := hW.oc
  unfold F_X1_troubleOfEntering tE
  rw [iL_0, show (10 : Int32) = iI 10 from rfl, show (3 : Int32) = iI 3 from rfl, if_lt (a := l) (by omega) (by omega) (by omega) (by omega), if_lt (a := l) (b := 10) (by omega) (by omega) (by omega) (by omega)]
  by_cases e1 : 0 ≤ l ∧ l < 10
  · rw [if_neg (show ¬ l < 0 by omega), if_pos e1.2, if_neg (show ¬ ¬ (0 ≤ l ∧ l < 10) by omega), show (2 : Int32) = iI 2 from rfl, if_lt (a := g) (b := 2) (by omega) (by omega) (by omega) (by omega), if_lt (a := 3) (b := g) (by omega) (by omega) (by omega) (by omega), if_lt (a := p) (by omega) (by omega) (by omega) (by omega)]
    by_cases e2 : 2 ≤ g ∧ g ≤ 3 ∧ 0 ≤ p ∧ p ≤ 5 - g
    · obtain ⟨g', hg'⟩ : ∃ g' : Nat, g = g' := ⟨g.toNat, by omega⟩
      obtain ⟨p', hp'⟩ : ∃ p' : Nat, p = p' := ⟨p.toNat, by omega⟩
      obtain ⟨l', hl'⟩ : ∃ l' : Nat, l = l' := ⟨l.toNat, by omega⟩
      have hcm := cm_lt_f l' (by omega) p' (by omega) g' (by omega) (by omega) (by omega)
      have hand : ocm w L G P n &&& cm l' p' g' ≤ ocm w L G P n := Nat.and_le_left
      rw [if_neg (show ¬ g < 2 by omega), if_neg (show ¬ 3 < g by omega), if_neg (show ¬ p < 0 by omega), show (5 : Int32) = iI 5 from rfl, iI_sub, if_le (a := p) (by omega) (by omega) (by omega) (by omega), if_pos (show p ≤ 5 - g by omega), if_neg (show ¬ ¬ (2 ≤ g ∧ g ≤ 3 ∧ 0 ≤ p ∧ p ≤ 5 - g) by omega), taken_I h hW, h.vn]
      simp only [ob_s, bnd_v]
      rw [hl', hp', hg', cellsOf_I (by omega) (by omega) (by omega) (by omega), Int.toNat_natCast, Int.toNat_natCast, Int.toNat_natCast, iI_and, if_eq (a := (n : Int)) (by omega) (by omega) (by omega) (by omega), if_lt (a := (l' : Int)) (by omega) (by omega) (by omega) (by omega), show (6 : Int32) = iI 6 from rfl, if_le (a := 6) (by omega) (by omega) (by omega) (by omega), if_eq (a := ((ocm w L G P n &&& cm l' p' g' : Nat) : Int)) (by omega) (by omega) (by omega) (by omega)]
      by_cases e3 : n = 6
      · rw [if_pos (show (6 : Int) ≤ (n : Int) by omega), if_pos (Or.inl e3)]; rfl
      · rw [if_neg (show ¬ (6 : Int) ≤ (n : Int) by omega)]
        by_cases e4 : ocm w L G P n &&& cm l' p' g' = 0
        · rw [if_pos (show ((ocm w L G P n &&& cm l' p' g' : Nat) : Int) = 0 by omega), if_neg (show ¬ (1 : Int32) = iI 0 by decide)]
          by_cases e5 : n = 0
          · rw [if_pos (show (n : Int) = 0 by omega)]
            by_cases e6 : l' < 5
            · rw [if_pos (show (l' : Int) < 5 by omega), if_pos rfl, if_neg (by rintro (q | q | q) <;> omega)]; rfl
            · rw [if_neg (show ¬ (l' : Int) < 5 by omega), if_neg (by decide), if_pos (Or.inr (Or.inr ⟨e5, by omega⟩))]; rfl
          · rw [if_neg (show ¬ (n : Int) = 0 by omega), if_pos rfl, if_neg (by rintro (q | q | q) <;> omega)]; rfl
        · rw [if_neg (show ¬ ((ocm w L G P n &&& cm l' p' g' : Nat) : Int) = 0 by omega), if_pos rfl, if_pos (Or.inr (Or.inl e4))]; rfl
    · rw [if_pos e2]
      by_cases q1 : g < 2
      · rw [if_pos q1]; rfl
      · rw [if_neg q1]
        by_cases q2 : 3 < g
        · rw [if_pos q2]; rfl
        · rw [if_neg q2]
          by_cases q3 : p < 0
          · rw [if_pos q3]; rfl
          · rw [if_neg q3, show (5 : Int32) = iI 5 from rfl, iI_sub, if_le (a := p) (by omega) (by omega) (by omega) (by omega), if_neg (by omega)]; rfl
  · rw [if_pos e1]
    by_cases q1 : l < 0
    · rw [if_pos q1]; rfl
    · rw [if_neg q1, if_neg (by omega)]; rfl
theorem menter_t (h : PkM 55 0 n w k z L P G lc lb M) (hW : PkW n w k z L P G lc lb) {l p g : Int} (l1 : -2147483648 ≤ l) (l2 : l < 2147483648) (p1 : -2147483648 ≤ p) (p2 : p < 2147483648) (g1 : -2147483648 ≤ g) (g2 : g < 2147483648) : F_X4_wrongCar (iI l) (iI p) (iI g) M = some (iI (tE n w L G P l p g : Nat)) := by
  have hn := hW.n6
  have ho := hW.oc
  unfold F_X4_wrongCar tE
  rw [iL_0, in_I (a := l) (b := 0) (c := 9) l1 l2 rfl rfl, in_I (a := g) (b := 2) (c := 3) g1 g2 rfl rfl, i10_eqI, i10_eqI]
  by_cases e1 : 0 ≤ l ∧ l < 10
  · rw [if_pos (show 0 ≤ l ∧ l ≤ 9 by omega), if_neg (show ¬ ¬ (0 ≤ l ∧ l < 10) by omega)]
    by_cases q1 : 2 ≤ g ∧ g ≤ 3
    · rw [if_pos q1, show (5 : Int32) = iI 5 from rfl, iI_sub, in_I (a := p) (b := 0) (c := 5 - g) p1 p2 rfl (iI_long (by omega) (by omega)), i10_eqI]
      by_cases q2 : 0 ≤ p ∧ p ≤ 5 - g
      · obtain ⟨g', hg'⟩ : ∃ g' : Nat, g = g' := ⟨g.toNat, by omega⟩
        obtain ⟨p', hp'⟩ : ∃ p' : Nat, p = p' := ⟨p.toNat, by omega⟩
        obtain ⟨l', hl'⟩ : ∃ l' : Nat, l = l' := ⟨l.toNat, by omega⟩
        have hcm := cm_lt_f l' (by omega) p' (by omega) g' (by omega) (by omega) (by omega)
        have hand : cm l' p' g' &&& ocm w L G P n ≤ ocm w L G P n := Nat.and_le_right
        rw [if_pos q2, if_neg (show ¬ ¬ (2 ≤ g ∧ g ≤ 3 ∧ 0 ≤ p ∧ p ≤ 5 - g) by omega), h.vn, show (6 : Int32) = iI 6 from rfl, if_eq (by omega) (by omega) (by omega) (by omega)]
        by_cases e3 : n = 6
        · rw [if_pos (show (n : Int) = 6 by omega), if_pos (Or.inl e3)]; rfl
        · rw [if_neg (show ¬ (n : Int) = 6 by omega), hl', hp', hg', cells_I (by omega) (by omega) (by omega) (by omega), ob_s, occ_I h hW, ob_s, iI_and, if_eq (a := ((cm l' p' g' &&& ocm w L G P n : Nat) : Int)) (by omega) (by omega) (by omega) (by omega), if_eq (a := (n : Int)) (by omega) (by omega) (by omega) (by omega), if_lt (by omega) (by omega) (by omega) (by omega), Int.toNat_natCast, Int.toNat_natCast, Int.toNat_natCast, Nat.and_comm]
          by_cases e4 : ocm w L G P n &&& cm l' p' g' = 0
          · rw [if_pos (show ((ocm w L G P n &&& cm l' p' g' : Nat) : Int) = 0 by omega)]
            by_cases e5 : n = 0
            · rw [if_pos (show (n : Int) = 0 by omega)]
              by_cases e6 : l' < 5
              · rw [if_pos (show (l' : Int) < 5 by omega), if_neg (by rintro (q | q | q) <;> omega)]; rfl
              · rw [if_neg (show ¬ (l' : Int) < 5 by omega), if_pos (Or.inr (Or.inr ⟨e5, by omega⟩))]; rfl
            · rw [if_neg (show ¬ (n : Int) = 0 by omega), if_neg (by rintro (q | q | q) <;> omega)]; rfl
          · rw [if_neg (show ¬ ((ocm w L G P n &&& cm l' p' g' : Nat) : Int) = 0 by omega), if_pos (Or.inr (Or.inl e4))]; rfl
      · rw [if_neg q2, if_pos (show ¬ (2 ≤ g ∧ g ≤ 3 ∧ 0 ≤ p ∧ p ≤ 5 - g) by omega)]; rfl
    · rw [if_neg q1, if_pos (show ¬ (2 ≤ g ∧ g ≤ 3 ∧ 0 ≤ p ∧ p ≤ 5 - g) by omega)]; rfl
  · rw [if_neg (show ¬ (0 ≤ l ∧ l ≤ 9) by omega), if_pos e1]; rfl
theorem tE_0 {l p g : Int} (h : tE n w L G P l p g = 0) : (0 ≤ l ∧ l < 10) ∧ (2 ≤ g ∧ g ≤ 3 ∧ 0 ≤ p ∧ p ≤ 5 - g) ∧ ¬ n = 6 ∧ ocm w L G P n &&& cm l.toNat p.toNat g.toNat = 0 := by
  unfold tE at h
  by_cases e1 : 0 ≤ l ∧ l < 10
  · rw [if_neg (fun z => z e1)] at h
    by_cases e2 : 2 ≤ g ∧ g ≤ 3 ∧ 0 ≤ p ∧ p ≤ 5 - g
    · rw [if_neg (fun z => z e2)] at h
      by_cases e3 : n = 6 ∨ ocm w L G P n &&& cm l.toNat p.toNat g.toNat ≠ 0 ∨ (n = 0 ∧ 5 ≤ l)
      · rw [if_pos e3] at h; cases h
      · exact ⟨e1, e2, fun z => e3 (Or.inl z), Classical.byContradiction fun z => e3 (Or.inr (Or.inl z))⟩
    · rw [if_pos e2] at h; cases h
  · rw [if_pos e1] at h; cases h
theorem tE_3 {l p g : Int} : tE n w L G P l p g = 0 ∨ tE n w L G P l p g = 1 ∨ tE n w L G P l p g = 2 ∨ tE n w L G P l p g = 3 := by
  unfold tE
  by_cases e1 : ¬ (0 ≤ l ∧ l < 10)
  · rw [if_pos e1]; exact Or.inr (Or.inl rfl)
  · rw [if_neg e1]
    by_cases e2 : ¬ (2 ≤ g ∧ g ≤ 3 ∧ 0 ≤ p ∧ p ≤ 5 - g)
    · rw [if_pos e2]; exact Or.inr (Or.inr (Or.inl rfl))
    · rw [if_neg e2]
      by_cases e3 : n = 6 ∨ ocm w L G P n &&& cm l.toNat p.toNat g.toNat ≠ 0 ∨ (n = 0 ∧ 5 ≤ l)
      · rw [if_pos e3]; exact Or.inr (Or.inr (Or.inr rfl))
      · rw [if_neg e3]; exact Or.inl rfl
/-- a wall may turn -/
def okT (n w : Nat) (L P G : Nat → Nat) (x : Nat) : Bool := w.testBit x || (decide (fcar L P G x n 0 = -1) && decide (pc 25 w < 4))
theorem fcar_wall (hW : PkW n w k z L P G lc lb) {x : Nat} (h : w.testBit x = true) : fcar L P G x n 0 = -1 := by
  rcases fcar_rng (L := L) (P := P) (G := G) (x := x) n 0 with ⟨h1, -⟩ | ⟨h1, h2, h3⟩
  · exact h1
  · exact absurd ⟨h, h3⟩ ((okb_iff.mp hW.2.2.2.1).2.1 _ (by omega) x)
theorem fcar_none {x : Nat} (h : fcar L P G x n 0 = -1) : ∀ i, i < n → ¬ (cm (L i) (P i) (G i)).testBit x = true := by
  rcases fcar_rng (L := L) (P := P) (G := G) (x := x) n 0 with ⟨-, h2⟩ | ⟨h1, h2, h3⟩
  · intro i hi q
    rw [h2 i (by omega) (by omega)] at q; cases q
  · omega
theorem occ_bit (hW : PkW n w k z L P G lc lb) {x : Nat} : (ocm w L G P n).testBit x = true ↔ w.testBit x = true ∨ fcar L P G x n 0 ≠ -1 := by
  rw [ocm_bit]
  constructor
  · rintro (q | ⟨i, i1, i2⟩)
    · exact Or.inl q
    · exact Or.inr fun q => fcar_none q i i1 i2
  · rintro (q | q)
    · exact Or.inl q
    · rcases fcar_rng (L := L) (P := P) (G := G) (x := x) n 0 with ⟨h1, -⟩ | ⟨h1, h2, h3⟩
      · exact absurd h1 q
      · exact Or.inr ⟨_, by omega, h3⟩
theorem cwall_t (h : PkC 1 n w k z L P G lc lb M) (hW : PkW n w k z L P G lc lb) {x : Nat} (hx : x < 25) : F_X1_troubleOfWall (iI (x : Int)) M = some (iI (if okT n w L P G x = true then 0 else 3)) := by
  have hwl := hW.2.1
  have hpc := pc_le 25 w
  have hf := fcar_rng (L := L) (P := P) (G := G) (x := x) n 0
  have hn := hW.n6
  unfold F_X1_troubleOfWall okT
  rw [isCell_I (by omega) (by omega), i10_eq0, if_pos (by omega), wallAt_I h.vw (by omega) hx, i10_eq0, h.vw, bitCount_I hwl, show (4 : Int32) = iI 4 from rfl, if_lt (by omega) (by omega) (by omega) (by omega), carAt_I h hW hx, bnd_v, ob_s, iL_0, if_le (by omega) (by omega) (by omega) (by omega)]
  by_cases e1 : w.testBit x = true
  · have e2 := fcar_wall hW e1
    rw [if_neg (by omega), if_pos e1, if_pos rfl, e1, Bool.true_or, if_pos rfl]
  · rw [if_neg e1, Bool.eq_false_iff.mpr e1, Bool.false_or]
    by_cases e2 : fcar L P G x n 0 = -1
    · rw [if_neg (by omega), decide_eq_true e2, Bool.true_and]
      by_cases e3 : pc 25 w < 4
      · rw [if_pos (show ((pc 25 w : Nat) : Int) < 4 by omega), if_pos rfl, decide_eq_true e3, if_pos rfl]
      · rw [if_neg (show ¬ ((pc 25 w : Nat) : Int) < 4 by omega), if_neg (show ¬ (1 : Int32) = iI 0 by decide), decide_eq_false e3, if_neg (by decide)]; rfl
    · rw [if_pos (by omega), decide_eq_false e2, Bool.false_and, if_neg (by decide)]; rfl
theorem mcanT_I (h : PkM 55 0 n w k z L P G lc lb M) (hW : PkW n w k z L P G lc lb) {x : Nat} (hx : x < 25) : F_X4_canTurn (iI (x : Int)) M = some (if okT n w L P G x = true then iI 1 else iI 0) := by
  have hwl := hW.2.1
  have ho := hW.oc
  have hpc := pc_le 25 w
  unfold F_X4_canTurn okT
  rw [mwall_I h.vw (by omega) hx, i10_eq0, occ_I h hW, ob_s, mbit_I (by omega) (by omega), i10_eq0, h.vw, bits_I hwl, ob_s, show (4 : Int32) = iI 4 from rfl, if_le (by omega) (by omega) (by omega) (by omega)]
  by_cases e1 : w.testBit x = true
  · rw [if_pos e1, e1, Bool.true_or, if_pos rfl]; rfl
  · rw [if_neg e1, Bool.eq_false_iff.mpr e1, Bool.false_or]
    by_cases e2 : fcar L P G x n 0 = -1
    · rw [if_neg (fun q => ((occ_bit hW).mp q).elim e1 (fun y => y e2)), decide_eq_true e2, Bool.true_and]
      by_cases e3 : pc 25 w < 4
      · rw [if_neg (by omega), decide_eq_true e3, if_pos rfl]; rfl
      · rw [if_pos (by omega), decide_eq_false e3, if_neg (by decide)]; rfl
    · rw [if_pos ((occ_bit hW).mpr (Or.inr e2)), decide_eq_false e2, Bool.false_and, if_neg (by decide)]; rfl
def tS (n w : Nat) (L G P : Nat → Nat) (c b : Int) : Nat := if ¬ (0 ≤ c ∧ c < n) then 1 else if ¬ (-3 ≤ b ∧ b ≤ 3 ∧ b ≠ 0) then 2 else if canS w L G P n c.toNat b = true then 0 else 3
theorem cslide_t (h : PkC 1 n w k z L P G lc lb M) (hW : PkW n w k z L P G lc lb) {c b : Int} (c1 : -2147483648 ≤ c) (c2 : c < 2147483648) (b1 : -2147483648 ≤ b) (b2 : b < 2147483648) : F_X1_troubleOfSliding (iI c) (iI b) M = some (iI (tS n w L G P c b : Nat)) := by
  have hn := hW.n6
  unfold F_X1_troubleOfSliding tS
  rw [hasCar_I h hW c1 c2, i10_eq0]
  by_cases e1 : 0 ≤ c ∧ c < n
  · obtain ⟨i, rfl⟩ : ∃ i : Nat, c = i := ⟨c.toNat, by omega⟩
    have r1 := rmm_le (w := w) (n := n) (L := L) (P := P) (G := G) (c := i) (f := true)
    have r2 := rmm_le (w := w) (n := n) (L := L) (P := P) (G := G) (c := i) (f := false)
    rw [if_pos e1, if_neg (show ¬ ¬ (0 ≤ (i : Int) ∧ (i : Int) < n) by omega), iL_m3, show (3 : Int32) = iI 3 from rfl, iL_0, if_lt (by omega) (by omega) (by omega) (by omega), if_lt (by omega) (by omega) (by omega) (by omega), if_eq (by omega) (by omega) (by omega) (by omega), if_le (by omega) (by omega) (by omega) (by omega), show (-1 : Int32) = iI (sgn false) from rfl, show (1 : Int32) = iI (sgn true) from rfl, roomOf_I h hW (by omega), roomOf_I h hW (by omega), Int.toNat_natCast]
    by_cases e2 : -3 ≤ b ∧ b ≤ 3 ∧ b ≠ 0
    · rw [if_neg (by omega), if_neg (by omega), if_neg (by omega), if_neg (show ¬ ¬ (-3 ≤ b ∧ b ≤ 3 ∧ b ≠ 0) by omega), abs_I e2.1 e2.2.1]
      unfold canS
      by_cases e3 : b ≤ 0
      · rw [if_pos e3, ob_s, ob_s, if_le (by omega) (by omega) (by omega) (by omega), decide_eq_false (show ¬ 0 < b by omega)]
        by_cases e4 : b.natAbs ≤ rmm w L G P n i false
        · rw [if_pos (by omega), decide_eq_true e4, if_pos rfl]; rfl
        · rw [if_neg (by omega), decide_eq_false e4, if_neg (by decide)]; rfl
      · rw [if_neg e3, ob_s, ob_s, if_le (by omega) (by omega) (by omega) (by omega), decide_eq_true (show 0 < b by omega)]
        by_cases e4 : b.natAbs ≤ rmm w L G P n i true
        · rw [if_pos (by omega), decide_eq_true e4, if_pos rfl]; rfl
        · rw [if_neg (by omega), decide_eq_false e4, if_neg (by decide)]; rfl
    · rw [if_pos e2]
      by_cases q1 : b < -3
      · rw [if_pos q1]; rfl
      · rw [if_neg q1]
        by_cases q2 : 3 < b
        · rw [if_pos q2]; rfl
        · rw [if_neg q2, if_pos (by omega)]; rfl
  · rw [if_neg e1, if_pos e1]; rfl
theorem isChange_I {b : Int} (b1 : -2147483648 ≤ b) (b2 : b < 2147483648) : F_X4_isChange (iI b) = if -3 ≤ b ∧ b ≤ 3 ∧ b ≠ 0 then iI 1 else iI 0 := by
  unfold F_X4_isChange
  rw [in_I (b := -3) (c := 3) b1 b2 rfl rfl, i10_eq0, iL_0, if_eq b1 b2 (by omega) (by omega)]
  by_cases e : -3 ≤ b ∧ b ≤ 3 ∧ b ≠ 0
  · rw [if_pos e, if_pos (by omega), if_neg (by omega)]; rfl
  · rw [if_neg e]
    by_cases e2 : -3 ≤ b ∧ b ≤ 3
    · rw [if_pos e2, if_pos (by omega)]
    · rw [if_neg e2]
theorem tS_3 {c b : Int} : tS n w L G P c b = 0 ∨ tS n w L G P c b = 1 ∨ tS n w L G P c b = 2 ∨ tS n w L G P c b = 3 := by
  unfold tS
  by_cases e1 : ¬ (0 ≤ c ∧ c < n)
  · rw [if_pos e1]; exact Or.inr (Or.inl rfl)
  · rw [if_neg e1]
    by_cases e2 : ¬ (-3 ≤ b ∧ b ≤ 3 ∧ b ≠ 0)
    · rw [if_pos e2]; exact Or.inr (Or.inr (Or.inl rfl))
    · rw [if_neg e2]
      by_cases e3 : canS w L G P n c.toNat b = true
      · rw [if_pos e3]; exact Or.inl rfl
      · rw [if_neg e3]; exact Or.inr (Or.inr (Or.inr rfl))
theorem tS_0 {c b : Int} (h : tS n w L G P c b = 0) : (0 ≤ c ∧ c < n) ∧ (-3 ≤ b ∧ b ≤ 3 ∧ b ≠ 0) ∧ canS w L G P n c.toNat b = true := by
  unfold tS at h
  by_cases e1 : 0 ≤ c ∧ c < n
  · rw [if_neg (fun z => z e1)] at h
    by_cases e2 : -3 ≤ b ∧ b ≤ 3 ∧ b ≠ 0
    · rw [if_neg (fun z => z e2)] at h
      by_cases e3 : canS w L G P n c.toNat b = true
      · exact ⟨e1, e2, e3⟩
      · rw [if_neg e3] at h; cases h
    · rw [if_pos e2] at h; cases h
  · rw [if_pos e1] at h; cases h
/-- the model's chain of questions -/
theorem mslide_t (h : PkM 55 0 n w k z L P G lc lb M) (hW : PkW n w k z L P G lc lb) {c b : Int} (c1 : -2147483648 ≤ c) (c2 : c < 2147483648) (b1 : -2147483648 ≤ b) (b2 : b < 2147483648) {y0 : Option Int32} : (if (F_X4_isCar (iI c) M) = 0 then some (1 : Int32) else if (F_X4_isChange (iI b)) = 0 then some (2 : Int32) else obind (F_X4_canSlide (iI c) (iI b) M) fun v6 => if v6 = 0 then some (3 : Int32) else y0) = if tS n w L G P c b = 0 then y0 else some (iI (tS n w L G P c b : Nat)) := by
  have hn := hW.n6
  unfold tS
  rw [isCar_I h hW c1 c2, i10_eq0, isChange_I b1 b2, i10_eq0]
  by_cases e1 : 0 ≤ c ∧ c < n
  · obtain ⟨i, rfl⟩ : ∃ i : Nat, c = i := ⟨c.toNat, by omega⟩
    rw [if_pos e1, if_neg (show ¬ ¬ (0 ≤ (i : Int) ∧ (i : Int) < n) by omega)]
    by_cases e2 : -3 ≤ b ∧ b ≤ 3 ∧ b ≠ 0
    · rw [if_pos e2, if_neg (show ¬ ¬ (-3 ≤ b ∧ b ≤ 3 ∧ b ≠ 0) by omega), mcanS_I h hW (by omega) e2.1 e2.2.1 e2.2.2, ob_s, i10_eq0, Int.toNat_natCast]
      by_cases e3 : canS w L G P n i b = true
      · rw [if_pos e3, if_pos e3, if_pos rfl]
      · rw [if_neg e3, if_neg e3, if_neg (by decide)]; rfl
    · rw [if_neg e2, if_pos e2, if_neg (by decide)]; rfl
  · rw [if_neg e1, if_pos e1, if_neg (by decide)]; rfl
end TE
theorem t_addCar (a b d : Int32) : TwoX (F_L_addCar_0_62 a b d) (F_X4_addCar a b d) := by
  rintro M ⟨⟨⟨n, w, k, z, L, P, G, lc, lb⟩, kp, kf, c, sv, tl, tc⟩, hW, hC, hM⟩
  have h : PkC 1 n w k z L P G lc lb M := hC.1
  have hw : PkW n w k z L P G lc lb := hW.1
  have hn := hw.n6
  obtain ⟨l, l1, l2, rfl⟩ := iI_ex a
  obtain ⟨p, p1, p2, rfl⟩ := iI_ex b
  obtain ⟨g, g1, g2, rfl⟩ := iI_ex d
  have fail : ∀ j : Nat, tE n w L G P l p g = j → j = 1 ∨ j = 2 ∨ j = 3 → ∃ k M1 b M2, F_L_addCar_0_62 (iI l) (iI p) (iI g) M = some (k, M1) ∧ F_X4_addCar (iI l) (iI p) (iI g) M1 = some (b, M2) ∧ M2.1 53 0 = k ∧ (k = 0 → M2.2.1 62 0 = b.toInt64) ∧ Inv M2 := fun j e hj => by
    refine failX (j := j) (by omega) (by omega) hC hM hW ?_ (fun N hN => ?_)
    · unfold F_L_addCar_0_62 F_X3_addCar
      rw [center_t h hw l1 l2 p1 p2 g1 g2, ob_s, e]
      rcases hj with rfl | rfl | rfl <;> rfl
    · unfold F_X4_addCar
      rw [menter_t (M := N) hN.1 hw l1 l2 p1 p2 g1 g2, ob_s, e, refused_k (by omega) (by omega), ob2_s]
      rfl
  rcases tE_3 (n := n) (w := w) (L := L) (G := G) (P := P) (l := l) (p := p) (g := g) with e | e | e | e
  · obtain ⟨e1, e2, e3, e4⟩ := tE_0 e
    obtain ⟨l', rfl⟩ : ∃ i : Nat, l = i := ⟨l.toNat, by omega⟩
    obtain ⟨p', rfl⟩ : ∃ i : Nat, p = i := ⟨p.toNat, by omega⟩
    obtain ⟨g', rfl⟩ : ∃ i : Nat, g = i := ⟨g.toNat, by omega⟩
    rw [Int.toNat_natCast, Int.toNat_natCast, Int.toNat_natCast] at e4
    obtain ⟨M1, f1, f2, f3⟩ := csave_I hC hW
    obtain ⟨M2, k1, k2, k3⟩ := enter_I (M := M1) (l := l') (p := p') (g := g') f2.svN (show n < 6 by omega)
    have hW2 := hW.sav
    refine two_ok hM (hW2.now (s := (n + 1, w, 0, z, updN L n l', updN P n p', updN G n g', lc, lb)) (wf_enter hw (by omega) (by omega) (by omega) (by omega) (by omega) e4)) (v := iI (n : Int)) (M1 := M2) ?_ (f2.now hW2.2.2.1 k2 k3) (f3.tr k3.cl) (fun N hN => ?_)
    · unfold F_L_addCar_0_62 F_X3_addCar
      rw [center_t h hw l1 l2 p1 p2 g1 g2, ob_s, e]
      show obindX (obindX (F_X3_refuse (iI 0) M) _ _) _ _ = _
      rw [refuse_0, obX_l, f1, ob_s, k1, ob2_s, obX_l]
      rfl
    · obtain ⟨N1, q1, q2, q3, q4⟩ := msave_I (hN.ref (v := iI 0)) hW
      obtain ⟨N2, r1, r2, r3⟩ := addOn_I (M := N1) (l := l') (p := p') (g := g') q2.svN (show n < 6 by omega)
      refine ⟨N2, ?_, q2.now r2 r3, (mo_ref.tr q3).tr r3.mo, by rw [r3.1 53 (by decide), q4, upI_at, if_pos rfl]⟩
      unfold F_X4_addCar
      rw [menter_t (M := N) hN.1 hw l1 l2 p1 p2 g1 g2, ob_s, e]
      show obind2 (F_X4_refused (iI 0) N) _ = _
      rw [refused_0, ob2_s, if_pos rfl, q1, ob_s, r1, ob2_s]
  · exact fail 1 e (by omega)
  · exact fail 2 e (by omega)
  · exact fail 3 e (by omega)
theorem t_dropLast : TwoX F_L_dropLast_0_62 F_X4_dropLast := by
  rintro M ⟨⟨⟨n, w, k, z, L, P, G, lc, lb⟩, kp, kf, c, sv, tl, tc⟩, hW, hC, hM⟩
  have h : PkC 1 n w k z L P G lc lb M := hC.1
  have hw : PkW n w k z L P G lc lb := hW.1
  have hn := hw.n6
  by_cases e : n = 0
  · refine failX (j := 1) (by decide) (by decide) hC hM hW ?_ (fun N hN => ?_)
    · unfold F_L_dropLast_0_62 F_X3_dropLast
      rw [h.vn, e]
      rfl
    · have hm : PkM 55 0 n w k z L P G lc lb N := hN.1
      unfold F_X4_dropLast
      rw [hm.vn, e]
      rfl
  · obtain ⟨M1, f1, f2, f3⟩ := csave_I hC hW
    obtain ⟨M2, k1, k2, k3⟩ := leave_I (M := M1) f2.svN (show 0 < n by omega)
    have hW2 := hW.sav
    refine two_ok hM (hW2.now (s := (n - 1, w, 0, z, L, P, G, lc, lb)) (wf_leave hw)) (v := iI ((n - 1 : Nat) : Int)) (M1 := M2) ?_ (f2.now hW2.2.2.1 k2 k3) (f3.tr k3.cl) (fun N hN => ?_)
    · unfold F_L_dropLast_0_62 F_X3_dropLast
      rw [h.vn, iL_0, if_eq (by omega) (by omega) (by omega) (by omega), if_neg (by omega), f1, ob_s, k1, ob2_s, obX_l]
    · have hm : PkM 55 0 n w k z L P G lc lb N := hN.1
      obtain ⟨N1, q1, q2, q3, q4⟩ := msave_I (hN.ref (v := iI 0)) hW
      obtain ⟨r2, r1⟩ := drop_I (M := N1) q2.svN (show 0 < n by omega) hn
      have r3 : frM1 N1 (upI (upI N1 55 0 ((N1.1 55 0) - (1 : Int32))) 55 20 (0 : Int32)) := ⟨fun c hc => by rw [upI_row_ne hc, upI_row_ne hc], rfl⟩
      refine ⟨_, ?_, q2.now r2 r3, (mo_ref.tr q3).tr r3.mo, by rw [r3.1 53 (by decide), q4, upI_at, if_pos rfl]⟩
      unfold F_X4_dropLast
      rw [hm.vn, iL_0, if_le (by omega) (by omega) (by omega) (by omega), if_neg (by omega), bnd_v]
      show obind2 (F_X4_refused (iI 0) N) _ = _
      rw [refused_0, ob2_s, if_pos (show (0 : Int32) = iI 0 from rfl), q1, ob_s, r1]
theorem t_toggleWall (a : Int32) : TwoB (F_L_toggleWall_0_62 a) (F_X4_toggleWall a) := by
  rintro M ⟨⟨⟨n, w, k, z, L, P, G, lc, lb⟩, kp, kf, c, sv, tl, tc⟩, hW, hC, hM⟩
  have h : PkC 1 n w k z L P G lc lb M := hC.1
  have hw : PkW n w k z L P G lc lb := hW.1
  have hn := hw.n6
  obtain ⟨x, x1, x2, rfl⟩ := iI_ex a
  by_cases e : 0 ≤ x ∧ x < 25
  · obtain ⟨i, rfl⟩ : ∃ i : Nat, x = i := ⟨x.toNat, by omega⟩
    by_cases e2 : okT n w L P G i = true
    · obtain ⟨M1, f1, f2, f3⟩ := csave_I hC hW
      obtain ⟨M2, k1, k2, k3⟩ := turn_I (M := M1) f2.svN hw.2.1 (show i < 25 by omega)
      have hW2 := hW.sav
      have hwf : w.testBit i = true ∨ ∀ j, j < n → ¬ (cm (L j) (P j) (G j)).testBit i = true := by
        unfold okT at e2
        rw [Bool.or_eq_true, Bool.and_eq_true, decide_eq_true_eq] at e2
        rcases e2 with e2 | e2
        · exact Or.inl e2
        · exact Or.inr (fcar_none e2.1)
      refine two_bok (v := if (w ^^^ 2 ^ i).testBit i = true then iI 1 else iI 0) isB10 hM (hW2.now (s := (n, w ^^^ 2 ^ i, 0, z, L, P, G, lc, lb)) (wf_wall hw (by omega) hwf)) (M1 := M2) ?_ (f2.now hW2.2.2.1 k2 k3) (f3.tr k3.cl) (fun N hN => ?_)
      · unfold F_L_toggleWall_0_62 F_X3_toggleWall
        rw [cwall_t h hw (by omega), ob_s, if_pos e2, refuse_0, obX_l, f1, ob_s, k1, ob2_s, obX_l, bnd_v]
        rfl
      · obtain ⟨N1, q1, q2, q3, q4⟩ := msave_I (hN.ref (v := iI 0)) hW
        obtain ⟨N2, r1, r2, r3⟩ := mturn_I (M := N1) q2.svN hn hw.2.1 (show i < 25 by omega)
        refine ⟨N2, ?_, q2.now r2 r3, (mo_ref.tr q3).tr r3.mo, by rw [r3.1 53 (by decide), q4, upI_at, if_pos rfl]⟩
        unfold F_X4_toggleWall
        rw [misCell_I x1 x2, i10_eq0, if_pos e, mcanT_I (M := N) hN.1 hw (by omega), ob_s, i10_eq0, if_pos e2, ob_s]
        show obind2 (F_X4_refused (iI 0) N) _ = _
        rw [refused_0, ob2_s, if_pos rfl, q1, ob_s, r1, ob2_s]
    · refine failB (j := 2) (by decide) (by decide) hC hM hW ?_ (fun N hN => ?_)
      · unfold F_L_toggleWall_0_62 F_X3_toggleWall
        rw [cwall_t h hw (by omega), ob_s, if_neg e2]
        rfl
      · unfold F_X4_toggleWall
        rw [misCell_I x1 x2, i10_eq0, if_pos e, mcanT_I (M := N) hN.1 hw (by omega), ob_s, i10_eq0, if_neg e2, ob_s]
        rfl
  · refine failB (j := 1) (by decide) (by decide) hC hM hW ?_ (fun N hN => ?_)
    · unfold F_L_toggleWall_0_62 F_X3_toggleWall F_X1_troubleOfWall
      rw [isCell_I x1 x2, i10_eq0, if_neg e]
      rfl
    · unfold F_X4_toggleWall
      rw [misCell_I x1 x2, i10_eq0, if_neg e]
      rfl
theorem t_slide (a d : Int32) : TwoX (F_L_slide_0_62 a d) (F_X4_slide a d) := by
  rintro M ⟨⟨⟨n, w, k, z, L, P, G, lc, lb⟩, kp, kf, c, sv, tl, tc⟩, hW, hC, hM⟩
  have h : PkC 1 n w k z L P G lc lb M := hC.1
  have hw : PkW n w k z L P G lc lb := hW.1
  have hn := hw.n6
  have hk60 := hw.k60
  obtain ⟨x, x1, x2, rfl⟩ := iI_ex a
  obtain ⟨b, b1, b2, rfl⟩ := iI_ex d
  have fail : ∀ j : Nat, tS n w L G P x b = j → j = 1 ∨ j = 2 ∨ j = 3 → ∃ k M1 b' M2, F_L_slide_0_62 (iI x) (iI b) M = some (k, M1) ∧ F_X4_slide (iI x) (iI b) M1 = some (b', M2) ∧ M2.1 53 0 = k ∧ (k = 0 → M2.2.1 62 0 = b'.toInt64) ∧ Inv M2 := fun j e hj => by
    refine failX (j := j) (by omega) (by omega) hC hM hW ?_ (fun N hN => ?_)
    · unfold F_L_slide_0_62 F_X3_slide
      rw [cslide_t h hw x1 x2 b1 b2, ob_s, e]
      rcases hj with rfl | rfl | rfl <;> rfl
    · unfold F_X4_slide
      rw [mslide_t (M := N) hN.1 hw x1 x2 b1 b2, if_neg (show ¬ tS n w L G P x b = 0 by omega), ob_s, e, refused_k (by omega) (by omega), ob2_s]
      rfl
  rcases tS_3 (n := n) (w := w) (L := L) (G := G) (P := P) (c := x) (b := b) with e | e | e | e
  · obtain ⟨e1, e2, e3⟩ := tS_0 e
    obtain ⟨i, rfl⟩ : ∃ i : Nat, x = i := ⟨x.toNat, by omega⟩
    rw [Int.toNat_natCast] at e3
    by_cases e4 : k < 60
    · obtain ⟨q, q1, q2, q3, q4⟩ := slide_y hw (show i < n by omega) e2.1 e2.2.1 e3
      obtain ⟨M1, f1, f2, f3⟩ := csave_I hC hW
      obtain ⟨M2, k1, k2, k3⟩ := make_I (M := M1) f2.svN hw (show i < n by omega) e4 q1
      have hW2 := hW.sav
      refine two_ok hM (hW2.now (s := (n, w, k + 1, z, L, updN P i q, G, updN lc k i, updZ lb k b)) (wf_slide hw (by omega) e2.1 e2.2.1 e4 q1 q3)) (v := iI (q : Int)) (M1 := M2) ?_ (f2.now hW2.2.2.1 k2 k3) (f3.tr k3.cl) (fun N hN => ?_)
      · unfold F_L_slide_0_62 F_X3_slide
        rw [cslide_t h hw x1 x2 b1 b2, ob_s, e]
        show obindX (obindX (F_X3_refuse (iI 0) M) _ _) _ _ = _
        rw [refuse_0, obX_l, h.vk, show (60 : Int32) = iI 60 from rfl, if_lt (by omega) (by omega) (by omega) (by omega), if_pos (by omega), f1, ob_s, k1, ob2_s, obX_l]
        rfl
      · have hm : PkM 55 0 n w k z L P G lc lb N := hN.1
        obtain ⟨N1, p1, p2, p3, p4⟩ := msave_I (hN.ref (v := iI 0)) hW
        obtain ⟨N2, r1, r2, r3⟩ := slideOn_I (M := N1) p2.svN hw (show i < n by omega) e4 q1
        refine ⟨N2, ?_, p2.now r2 r3, (mo_ref.tr p3).tr r3.mo, by rw [r3.1 53 (by decide), p4, upI_at, if_pos rfl]⟩
        unfold F_X4_slide
        rw [mslide_t hm hw x1 x2 b1 b2, if_pos e, hm.vk, show (60 : Int32) = iI 60 from rfl, if_le (by omega) (by omega) (by omega) (by omega), if_neg (by omega), ob_s]
        show obind2 (F_X4_refused (iI 0) N) _ = _
        rw [refused_0, ob2_s, if_pos rfl, p1, ob_s, r1, ob2_s]
    · refine failX (j := 3) (by decide) (by decide) hC hM hW ?_ (fun N hN => ?_)
      · unfold F_L_slide_0_62 F_X3_slide
        rw [cslide_t h hw x1 x2 b1 b2, ob_s, e]
        show obindX (obindX (F_X3_refuse (iI 0) M) _ _) _ _ = _
        rw [refuse_0, obX_l, h.vk, show (60 : Int32) = iI 60 from rfl, if_lt (by omega) (by omega) (by omega) (by omega), if_neg (by omega)]
        rfl
      · have hm : PkM 55 0 n w k z L P G lc lb N := hN.1
        unfold F_X4_slide
        rw [mslide_t hm hw x1 x2 b1 b2, if_pos e, hm.vk, show (60 : Int32) = iI 60 from rfl, if_le (by omega) (by omega) (by omega) (by omega), if_pos (by omega), ob_s]
        rfl
  · exact fail 1 e (by omega)
  · exact fail 2 e (by omega)
  · exact fail 3 e (by omega)
theorem t_takeBack : TwoX F_L_takeBack_0_62 F_X4_takeBack := by
  rintro M ⟨⟨⟨n, w, k, z, L, P, G, lc, lb⟩, kp, kf, c, sv, tl, tc⟩, hW, hC, hM⟩
  have h : PkC 1 n w k z L P G lc lb M := hC.1
  have hw : PkW n w k z L P G lc lb := hW.1
  have hn := hw.n6
  have hk60 := hw.k60
  cases k with
  | zero =>
    refine failX (j := 1) (by decide) (by decide) hC hM hW ?_ (fun N hN => ?_)
    · unfold F_L_takeBack_0_62 F_X3_takeBack
      rw [h.vk]
      rfl
    · have hm : PkM 55 0 n w 0 z L P G lc lb N := hN.1
      unfold F_X4_takeBack
      rw [hm.vk]
      rfl
  | succ k =>
    obtain ⟨q, q1, q2, q3⟩ := wf_back hw
    obtain ⟨M1, f1, f2, f3⟩ := csave_I hC hW
    obtain ⟨M2, k1, k2, k3⟩ := unmake_I (M := M1) f2.svN hw q1 q3
    have hW2 := hW.sav
    refine two_ok hM (hW2.now (s := (n, w, k, z, L, updN P (lc k) q, G, lc, lb)) q2) (v := iI (lc k : Int)) (M1 := M2) ?_ (f2.now hW2.2.2.1 k2 k3) (f3.tr k3.cl) (fun N hN => ?_)
    · unfold F_L_takeBack_0_62 F_X3_takeBack
      rw [h.vk, iL_0, if_eq (by omega) (by omega) (by omega) (by omega), if_neg (by omega), f1, ob_s, k1, ob2_s, obX_l]
    · have hm : PkM 55 0 n w (k + 1) z L P G lc lb N := hN.1
      obtain ⟨N1, p1, p2, p3, p4⟩ := msave_I (hN.ref (v := iI 0)) hW
      obtain ⟨N2, r1, r2, r3⟩ := backOn_I (M := N1) p2.svN hw q1 q3
      refine ⟨N2, ?_, p2.now r2 r3, (mo_ref.tr p3).tr r3.mo, by rw [r3.1 53 (by decide), p4, upI_at, if_pos rfl]⟩
      unfold F_X4_takeBack
      rw [hm.vk, iL_0, if_le (by omega) (by omega) (by omega) (by omega), if_neg (by omega), bnd_v]
      show obind2 (F_X4_refused (iI 0) N) _ = _
      rw [refused_0, ob2_s, if_pos (show (0 : Int32) = iI 0 from rfl), p1, ob_s, r1, ob2_s]

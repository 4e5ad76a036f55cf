/-! ===== calls that change ===== -/
theorem CI.svN {S : Wst} {M : Wd} (h : CI (savS S) M) : pC 1 (sN S) M := by have := h.1; rwa [savS_sN] at this
theorem refuse_0 {M : Wd} : F_X3_refuse (iI 0) M = some (.inl (), M) := rfl
theorem refuse_1 {M : Wd} : F_X3_refuse (iI 1) M = some (.inr 1, M) := rfl
theorem refuse_2 {M : Wd} : F_X3_refuse (iI 2) M = some (.inr 2, M) := rfl
theorem refuse_3 {M : Wd} : F_X3_refuse (iI 3) M = some (.inr 3, M) := rfl
def tE (n w : Nat) (L G P : Nat → Nat) (l p g : Int) : Nat := if ¬ (0 ≤ l ∧ l < 10) then 1 else if ¬ (2 ≤ g ∧ g ≤ 3 ∧ 0 ≤ p ∧ p ≤ 5 - g) then 2 else if n = 6 ∨ ocm w L G P n &&& cm l.toNat p.toNat g.toNat ≠ 0 ∨ (n = 0 ∧ 5 ≤ l) then 3 else 0
section TE
variable {n w k : Nat} {z : Int} {L P G lc : Nat → Nat} {lb : Nat → Int} {M : Wd}
theorem center_t (h : PkC 1 n w k z L P G lc lb M) (hW : PkW n w k z L P G lc lb) {l p g : Int} (l1 : -2147483648 ≤ l) (l2 : l < 2147483648) (p1 : -2147483648 ≤ p) (p2 : p < 2147483648) (g1 : -2147483648 ≤ g) (g2 : g < 2147483648) : F_X1_troubleOfEntering (iI l) (iI p) (iI g) M = some (iI (tE n w L G P l p g : Nat)) := by
  have hn := hW.n6
  have ho := hW.oc
  unfold F_X1_troubleOfEntering tE
  rw [iL_0, show (10 : Int32) = iI 10 from rfl, show (3 : Int32) = iI 3 from rfl, if_lt (a := l) (by omega) (by omega) (by omega) (by omega), if_lt (a := l) (b := 10) (by omega) (by omega) (by omega) (by omega)]
  by_cases e1 : 0 ≤ l ∧ l < 10
  · rw [if_neg (show ¬ l < 0 by omega), if_pos e1.2, if_neg (show ¬ ¬ (0 ≤ l ∧ l < 10) by omega), show (2 : Int32) = iI 2 from rfl, if_lt (a := g) (b := 2) (by omega) (by omega) (by omega) (by omega), if_lt (a := 3) (b := g) (by omega) (by omega) (by omega) (by omega), if_lt (a := p) (by omega) (by omega) (by omega) (by omega)]
    by_cases e2 : 2 ≤ g ∧ g ≤ 3 ∧ 0 ≤ p ∧ p ≤ 5 - g
    · obtain ⟨g', hg'⟩ : ∃ g' : Nat, g = g' := ⟨g.toNat, by omega⟩
      obtain ⟨p', hp'⟩ : ∃ p' : Nat, p = p' := ⟨p.toNat, by omega⟩
      obtain ⟨l', hl'⟩ : ∃ l' : Nat, l = l' := ⟨l.toNat, by omega⟩
      have hcm := cm_lt_f l' (by omega) p' (by omega) g' (by omega) (by omega) (by omega)
      have hand : ocm w L G P n &&& cm l' p' g' ≤ ocm w L G P n := Nat.and_le_left
      rw [if_neg (show ¬ g < 2 by omega), if_neg (show ¬ 3 < g by omega), if_neg (show ¬ p < 0 by omega), show (5 : Int32) = iI 5 from rfl, iI_sub, if_le (a := p) (by omega) (by omega) (by omega) (by omega), if_pos (show p ≤ 5 - g by omega), if_neg (show ¬ ¬ (2 ≤ g ∧ g ≤ 3 ∧ 0 ≤ p ∧ p ≤ 5 - g) by omega), taken_I h hW, h.vn]
      simp only [ob_s, bnd_v]
      rw [hl', hp', hg', cellsOf_I (by omega) (by omega) (by omega) (by omega), Int.toNat_natCast, Int.toNat_natCast, Int.toNat_natCast, iI_and, if_eq (a := (n : Int)) (by omega) (by omega) (by omega) (by omega), if_lt (a := (l' : Int)) (by omega) (by omega) (by omega) (by omega), show (6 : Int32) = iI 6 from rfl, if_le (a := 6) (by omega) (by omega) (by omega) (by omega), if_eq (a := ((ocm w L G P n &&& cm l' p' g' : Nat) : Int)) (by omega) (by omega) (by omega) (by omega)]
      by_cases e3 : n = 6
      · rw [if_pos (show (6 : Int) ≤ (n : Int) by omega), if_pos (Or.inl e3)]; rfl
      · rw [if_neg (show ¬ (6 : Int) ≤ (n : Int) by omega)]
        by_cases e4 : ocm w L G P n &&& cm l' p' g' = 0
        · rw [if_pos (show ((ocm w L G P n &&& cm l' p' g' : Nat) : Int) = 0 by omega), if_neg (show ¬ (1 : Int32) = iI 0 by decide)]
          by_cases e5 : n = 0
          · rw [if_pos (show (n : Int) = 0 by omega)]
            by_cases e6 : l' < 5
            · rw [if_pos (show (l' : Int) < 5 by omega), if_pos rfl, if_neg (by rintro (q | q | q) <;> omega)]; rfl
            · rw [if_neg (show ¬ (l' : Int) < 5 by omega), if_neg (by decide), if_pos (Or.inr (Or.inr ⟨e5, by omega⟩))]; rfl
          · rw [if_neg (show ¬ (n : Int) = 0 by omega), if_pos rfl, if_neg (by rintro (q | q | q) <;> omega)]; rfl
        · rw [if_neg (show ¬ ((ocm w L G P n &&& cm l' p' g' : Nat) : Int) = 0 by omega), if_pos rfl, if_pos (Or.inr (Or.inl e4))]; rfl
    · rw [if_pos e2]
      by_cases q1 : g < 2
      · rw [if_pos q1]; rfl
      · rw [if_neg q1]
        by_cases q2 : 3 < g
        · rw [if_pos q2]; rfl
        · rw [if_neg q2]
          by_cases q3 : p < 0
          · rw [if_pos q3]; rfl
          · rw [if_neg q3, show (5 : Int32) = iI 5 from rfl, iI_sub, if_le (a := p) (by omega) (by omega) (by omega) (by omega), if_neg (by omega)]; rfl
  · rw [if_pos e1]
    by_cases q1 : l < 0
    · rw [if_pos q1]; rfl
    · rw [if_neg q1, if_neg (by omega)]; rfl
theorem tE_0 {l p g : Int} (h : tE n w L G P l p g = 0) : (0 ≤ l ∧ l < 10) ∧ (2 ≤ g ∧ g ≤ 3 ∧ 0 ≤ p ∧ p ≤ 5 - g) ∧ ¬ n = 6 ∧ ocm w L G P n &&& cm l.toNat p.toNat g.toNat = 0 := by
  unfold tE at h
  by_cases e1 : 0 ≤ l ∧ l < 10
  · rw [if_neg (fun z => z e1)] at h
    by_cases e2 : 2 ≤ g ∧ g ≤ 3 ∧ 0 ≤ p ∧ p ≤ 5 - g
    · rw [if_neg (fun z => z e2)] at h
      by_cases e3 : n = 6 ∨ ocm w L G P n &&& cm l.toNat p.toNat g.toNat ≠ 0 ∨ (n = 0 ∧ 5 ≤ l)
      · rw [if_pos e3] at h; cases h
      · exact ⟨e1, e2, fun z => e3 (Or.inl z), Classical.byContradiction fun z => e3 (Or.inr (Or.inl z))⟩
    · rw [if_pos e2] at h; cases h
  · rw [if_pos e1] at h; cases h
theorem tE_3 {l p g : Int} : tE n w L G P l p g = 0 ∨ tE n w L G P l p g = 1 ∨ tE n w L G P l p g = 2 ∨ tE n w L G P l p g = 3 := by
  unfold tE
  by_cases e1 : ¬ (0 ≤ l ∧ l < 10)
  · rw [if_pos e1]; exact Or.inr (Or.inl rfl)
  · rw [if_neg e1]
    by_cases e2 : ¬ (2 ≤ g ∧ g ≤ 3 ∧ 0 ≤ p ∧ p ≤ 5 - g)
    · rw [if_pos e2]; exact Or.inr (Or.inr (Or.inl rfl))
    · rw [if_neg e2]
      by_cases e3 : n = 6 ∨ ocm w L G P n &&& cm l.toNat p.toNat g.toNat ≠ 0 ∨ (n = 0 ∧ 5 ≤ l)
      · rw [if_pos e3]; exact Or.inr (Or.inr (Or.inr rfl))
      · rw [if_neg e3]; exact Or.inl rfl
/-- a wall may turn -/
def okT (n w : Nat) (L P G : Nat → Nat) (x : Nat) : Bool := w.testBit x || (decide (fcar L P G x n 0 = -1) && decide (pc 25 w < 4))
theorem fcar_wall (hW : PkW n w k z L P G lc lb) {x : Nat} (h : w.testBit x = true) : fcar L P G x n 0 = -1 := by
  rcases fcar_rng (L := L) (P := P) (G := G) (x := x) n 0 with ⟨h1, -⟩ | ⟨h1, h2, h3⟩
  · exact h1
  · exact absurd ⟨h, h3⟩ ((okb_iff.mp hW.2.2.2.1).2.1 _ (by omega) x)
theorem fcar_none {x : Nat} (h : fcar L P G x n 0 = -1) : ∀ i, i < n → ¬ (cm (L i) (P i) (G i)).testBit x = true := by
  rcases fcar_rng (L := L) (P := P) (G := G) (x := x) n 0 with ⟨-, h2⟩ | ⟨h1, h2, h3⟩
  · intro i hi q
    rw [h2 i (by omega) (by omega)] at q; cases q
  · omega
theorem occ_bit (hW : PkW n w k z L P G lc lb) {x : Nat} : (ocm w L G P n).testBit x = true ↔ w.testBit x = true ∨ fcar L P G x n 0 ≠ -1 := by
  rw [ocm_bit]
  constructor
  · rintro (q | ⟨i, i1, i2⟩)
    · exact Or.inl q
    · exact Or.inr fun q => fcar_none q i i1 i2
  · rintro (q | q)
    · exact Or.inl q
    · rcases fcar_rng (L := L) (P := P) (G := G) (x := x) n 0 with ⟨h1, -⟩ | ⟨h1, h2, h3⟩
      · exact absurd h1 q
      · exact Or.inr ⟨_, by omega, h3⟩
theorem cwall_t (h : PkC 1 n w k z L P G lc lb M) (hW : PkW n w k z L P G lc lb) {x : Nat} (hx : x < 25) : F_X1_troubleOfWall (iI (x : Int)) M = some (iI (if okT n w L P G x = true then 0 else 3)) := by
  have hwl := hW.2.1
  have hpc := pc_le 25 w
  have hf := fcar_rng (L := L) (P := P) (G := G) (x := x) n 0
  have hn := hW.n6
  unfold F_X1_troubleOfWall okT
  rw [isCell_I (by omega) (by omega), i10_eq0, if_pos (by omega), wallAt_I h.vw (by omega) hx, i10_eq0, h.vw, bitCount_I hwl, show (4 : Int32) = iI 4 from rfl, if_lt (by omega) (by omega) (by omega) (by omega), carAt_I h hW hx, bnd_v, ob_s, iL_0, if_le (by omega) (by omega) (by omega) (by omega)]
  by_cases e1 : w.testBit x = true
  · have e2 := fcar_wall hW e1
    rw [if_neg (by omega), if_pos e1, if_pos rfl, e1, Bool.true_or, if_pos rfl]
  · rw [if_neg e1, Bool.eq_false_iff.mpr e1, Bool.false_or]
    by_cases e2 : fcar L P G x n 0 = -1
    · rw [if_neg (by omega), decide_eq_true e2, Bool.true_and]
      by_cases e3 : pc 25 w < 4
      · rw [if_pos (show ((pc 25 w : Nat) : Int) < 4 by omega), if_pos rfl, decide_eq_true e3, if_pos rfl]
      · rw [if_neg (show ¬ ((pc 25 w : Nat) : Int) < 4 by omega), if_neg (show ¬ (1 : Int32) = iI 0 by decide), decide_eq_false e3, if_neg (by decide)]; rfl
    · rw [if_pos (by omega), decide_eq_false e2, Bool.false_and, if_neg (by decide)]; rfl
def tS (n w : Nat) (L G P : Nat → Nat) (c b : Int) : Nat := if ¬ (0 ≤ c ∧ c < n) then 1 else if ¬ (-3 ≤ b ∧ b ≤ 3 ∧ b ≠ 0) then 2 else if canS w L G P n c.toNat b = true then 0 else 3
theorem cslide_t (h : PkC 1 n w k z L P G lc lb M) (hW : PkW n w k z L P G lc lb) {c b : Int} (c1 : -2147483648 ≤ c) (c2 : c < 2147483648) (b1 : -2147483648 ≤ b) (b2 : b < 2147483648) : F_X1_troubleOfSliding (iI c) (iI b) M = some (iI (tS n w L G P c b : Nat)) := by
  have hn := hW.n6
  unfold F_X1_troubleOfSliding tS
  rw [hasCar_I h hW c1 c2, i10_eq0]
  by_cases e1 : 0 ≤ c ∧ c < n
  · obtain ⟨i, rfl⟩ : ∃ i : Nat, c = i := ⟨c.toNat, by omega⟩
    have r1 := rmm_le (w := w) (n := n) (L := L) (P := P) (G := G) (c := i) (f := true)
    have r2 := rmm_le (w := w) (n := n) (L := L) (P := P) (G := G) (c := i) (f := false)
    rw [if_pos e1, if_neg (show ¬ ¬ (0 ≤ (i : Int) ∧ (i : Int) < n) by omega), iL_m3, show (3 : Int32) = iI 3 from rfl, iL_0, if_lt (by omega) (by omega) (by omega) (by omega), if_lt (by omega) (by omega) (by omega) (by omega), if_eq (by omega) (by omega) (by omega) (by omega), if_le (by omega) (by omega) (by omega) (by omega), show (-1 : Int32) = iI (sgn false) from rfl, show (1 : Int32) = iI (sgn true) from rfl, roomOf_I h hW (by omega), roomOf_I h hW (by omega), Int.toNat_natCast]
    by_cases e2 : -3 ≤ b ∧ b ≤ 3 ∧ b ≠ 0
    · rw [if_neg (by omega), if_neg (by omega), if_neg (by omega), if_neg (show ¬ ¬ (-3 ≤ b ∧ b ≤ 3 ∧ b ≠ 0) by omega), abs_I e2.1 e2.2.1]
      unfold canS
      by_cases e3 : b ≤ 0
      · rw [if_pos e3, ob_s, ob_s, if_le (by omega) (by omega) (by omega) (by omega), decide_eq_false (show ¬ 0 < b by omega)]
        by_cases e4 : b.natAbs ≤ rmm w L G P n i false
        · rw [if_pos (by omega), decide_eq_true e4, if_pos rfl]; rfl
        · rw [if_neg (by omega), decide_eq_false e4, if_neg (by decide)]; rfl
      · rw [if_neg e3, ob_s, ob_s, if_le (by omega) (by omega) (by omega) (by omega), decide_eq_true (show 0 < b by omega)]
        by_cases e4 : b.natAbs ≤ rmm w L G P n i true
        · rw [if_pos (by omega), decide_eq_true e4, if_pos rfl]; rfl
        · rw [if_neg (by omega), decide_eq_false e4, if_neg (by decide)]; rfl
    · rw [if_pos e2]
      by_cases q1 : b < -3
      · rw [if_pos q1]; rfl
      · rw [if_neg q1]
        by_cases q2 : 3 < b
        · rw [if_pos q2]; rfl
        · rw [if_neg q2, if_pos (by omega)]; rfl
  · rw [if_neg e1, if_pos e1]; rfl
theorem tS_3 {c b : Int} : tS n w L G P c b = 0 ∨ tS n w L G P c b = 1 ∨ tS n w L G P c b = 2 ∨ tS n w L G P c b = 3 := by
  unfold tS
  by_cases e1 : ¬ (0 ≤ c ∧ c < n)
  · rw [if_pos e1]; exact Or.inr (Or.inl rfl)
  · rw [if_neg e1]
    by_cases e2 : ¬ (-3 ≤ b ∧ b ≤ 3 ∧ b ≠ 0)
    · rw [if_pos e2]; exact Or.inr (Or.inr (Or.inl rfl))
    · rw [if_neg e2]
      by_cases e3 : canS w L G P n c.toNat b = true
      · rw [if_pos e3]; exact Or.inl rfl
      · rw [if_neg e3]; exact Or.inr (Or.inr (Or.inr rfl))
theorem tS_0 {c b : Int} (h : tS n w L G P c b = 0) : (0 ≤ c ∧ c < n) ∧ (-3 ≤ b ∧ b ≤ 3 ∧ b ≠ 0) ∧ canS w L G P n c.toNat b = true := by
  unfold tS at h
  by_cases e1 : 0 ≤ c ∧ c < n
  · rw [if_neg (fun z => z e1)] at h
    by_cases e2 : -3 ≤ b ∧ b ≤ 3 ∧ b ≠ 0
    · rw [if_neg (fun z => z e2)] at h
      by_cases e3 : canS w L G P n c.toNat b = true
      · exact ⟨e1, e2, e3⟩
      · rw [if_neg e3] at h; cases h
    · rw [if_pos e2] at h; cases h
  · rw [if_pos e1] at h; cases h
end TE

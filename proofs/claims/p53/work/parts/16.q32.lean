/-! ===== reading and doing whole texts ===== -/
section WK
variable {tl : Nat} {tc : Nat → Nat}
def nsc (tc : Nat → Nat) : Nat → Nat → Nat
  | 0, _ => 0
  | r + 1, p => (if tc p = 59 then 1 else 0) + nsc tc r (p + 1)
def nsA (tl : Nat) (tc : Nat → Nat) (p : Nat) : Nat := nsc tc (tl - p) p
theorem nsc_le : ∀ r p, nsc tc r p ≤ r
  | 0, _ => Nat.le_refl 0
  | r + 1, p => by
    have := nsc_le r (p + 1)
    show (if tc p = 59 then 1 else 0) + nsc tc r (p + 1) ≤ r + 1
    split <;> omega
theorem nsA_e : nsA tl tc tl = 0 := by unfold nsA; rw [Nat.sub_self]; rfl
theorem nsA_s {p : Nat} (h : p < tl) : nsA tl tc p = (if tc p = 59 then 1 else 0) + nsA tl tc (p + 1) := by
  unfold nsA
  rw [show tl - p = (tl - (p + 1)) + 1 by omega]
  rfl
theorem nsA_skip {p' : Nat} (hp : p' ≤ tl) : ∀ (r p : Nat), p + r = p' → (∀ i, p ≤ i → i < p' → tc i ≠ 59) → nsA tl tc p = nsA tl tc p'
  | 0, p, h, _ => by rw [show p = p' by omega]
  | r + 1, p, h, hn => by
    rw [nsA_s (by omega), if_neg (hn p (Nat.le_refl p) (by omega)), Nat.zero_add]
    exact nsA_skip hp r (p + 1) (by omega) (fun i h1 h2 => hn i (by omega) h2)
def frU (M N : Wd) : Prop := (∀ c, c ≠ 53 → N.1 c = M.1 c) ∧ (∀ j, ¬ (15 ≤ j ∧ j ≤ 18) → j ≠ 20 → N.1 53 j = M.1 53 j) ∧ N.2 = M.2
theorem frU.rf (M : Wd) : frU M M := ⟨fun _ _ => rfl, fun _ _ _ => rfl, rfl⟩
theorem frU.tr {M N O : Wd} (h : frU M N) (h2 : frU N O) : frU M O := ⟨fun c a => by rw [h2.1 c a, h.1 c a], fun j a b => by rw [h2.2.1 j a b, h.2.1 j a b], by rw [h2.2.2, h.2.2]⟩
theorem frR.U {M N : Wd} (h : frR M N) : frU M N := ⟨h.1, fun j a b => h.2.1 j (by omega), h.2.2⟩
theorem frU.up20 {M : Wd} {v : Int32} : frU M (upI M 53 20 v) := ⟨fun c hc => upI_row_ne hc, fun i _ hi => by rw [upI_at, if_neg hi], rfl⟩
theorem frU.W {M N : Wd} (h : frU M N) : frW M N := ⟨fun c hc => h.1 c (by omega), fun j a b c => h.2.1 j (by omega) (by omega), h.2.2⟩
theorem Tx.fru {M N : Wd} (h : Tx tl tc M) (hf : frU M N) : Tx tl tc N := h.frw hf.W
theorem cpl_next {p p' t : Nat} (h : ROK tl tc (bh 0 (tc p)) (p + 1) p' t) (hlt : p < tl) (hc : cplS (fiA tl tc 0 p)) : p' < tl → tc p' = 59 ∧ cplS (fiA tl tc 0 (p' + 1)) := fun hl => by
  obtain ⟨r1, r2, r3, r4, r5, r6, r7⟩ := h
  rw [fiA_s hlt, r4, fiA_s hl, r6 hl] at hc
  by_cases e : tc p' = 59
  · rw [if_pos e] at hc; exact ⟨e, hc⟩
  · rw [if_neg e, fiA_12 (tl - (p' + 1)) (p' + 1) (by omega)] at hc
    unfold cplS at hc; omega
/-- a world that holds the text alone -/
def Wt (tl : Nat) (tc : Nat → Nat) (p : Nat) : Wd := (fun c k => if c = 53 then (if k = 2 then iI (tl : Int) else iI (p : Int)) else iI (tc k : Int), fun _ _ => 0, fun _ => 0)
theorem Wt_Tx (h60 : tl ≤ 60) (hct : ∀ i, i < tl → 33 ≤ tc i ∧ tc i ≤ 126) (p : Nat) : Tx tl tc (Wt tl tc p) := ⟨h60, hct, rfl, fun _ _ => rfl⟩
theorem pos_uniq {N N2 : Wd} {p p1 p2 : Nat} (h1 : VL tl tc N p p1) (h2 : VL tl tc N2 p p2) (hs : bh 0 (tc p) ≠ 12) (l1 : p1 < tl → tc p1 = 59) (l2 : p2 < tl → tc p2 = 59) : p1 = p2 := by
  by_cases e1 : tc p = 104 ∨ tc p = 118
  · have a1 := (h1.1 e1).1
    have a2 := (h2.1 e1).1
    omega
  · by_cases e2 : tc p = 119
    · obtain ⟨v, -, -, a1, a2, a3⟩ := h1.2.1 e2
      obtain ⟨v', -, -, b1, b2, b3⟩ := h2.2.1 e2
      rcases a3 with ⟨a4, -⟩ | ⟨a4, -, a5, a6, a7⟩
      · rcases b3 with ⟨b4, -⟩ | ⟨b4, -, b5, b6, b7⟩
        · omega
        · rw [a4] at l1
          have := l1 b7
          omega
      · rcases b3 with ⟨b4, -⟩ | ⟨b4, -, b5, b6, b7⟩
        · rw [b4] at l2
          have := l2 a7
          omega
        · omega
    · by_cases e3 : tc p = 98 ∨ tc p = 100
      · have a1 := h1.2.2.1 e3
        have a2 := h2.2.2.1 e3
        omega
      · have e5 : 48 ≤ tc p ∧ tc p ≤ 53 := by
          rw [bh0, if_neg e1, if_neg e2, if_neg e3] at hs
          exact Classical.byContradiction fun z => hs (if_neg z)
        have a1 := (h1.2.2.2 e5.1 e5.2).1
        have a2 := (h2.2.2.2 e5.1 e5.2).1
        omega
end WK
